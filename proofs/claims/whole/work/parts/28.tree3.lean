def tPost (v : Option Value) (nx : Nat) (M : xH) (a : Nat) (cd : Nat → Int64) (ds ps ch wc : Nat → Int32) (wd : Nat → Int64) (n cp : Nat) : xO → Nat → xH → Prop := fun r n' M' => r = v ∧ n' = nx ∧ tAt M' a cd ds ps ch wc wd n cp ∧ ∀ b, (b < a ∨ a + 6 < b) → M' b = M b
/-- k words laid from a base on -/
def wcp (w1 : Nat → Int64) (base : Nat) : Nat → (Nat → Int64) → (Nat → Int64)
  | 0, wd => wd
  | k + 1, wd => vp_updL (wcp w1 base k wd) (base + k) (w1 k)
/-- the row ahead which a next one with so many dashes is below -/
def par (ds : Nat → Int32) (dd : Int32) (n : Nat) : Option Nat := la (fun i => decide (ds i = dd - nI 1)) n
def chi (ch : Nat → Int32) (n : Nat) (r : Option Nat) : Nat → Int32 := match r with
  | none => upd ch n (nI 0)
  | some j => upd (upd ch n (nI 0)) j ((upd ch n (nI 0)) j + nI 1)
def chp (cp : Nat) (r : Option Nat) : Nat := match r with
  | none => cp + 1
  | some _ => cp
set_option maxHeartbeats 4000000 in
set_option maxRecDepth 100000 in
theorem cT_clear (l : Launch) (nx : Nat) (M : xH) (a : Nat) (cd : Nat → Int64) (ds ps ch wc : Nat → Int32) (wd : Nat → Int64) (n cp : Nat) (hT : tAt M a cd ds ps ch wc wd n cp) : xC l xcl yT_clear (xw (Cond.code yT_clear bT_clear 1 none)) ({ frames := 0, cells := 0, slots := 0, locals := 0 } : Room) [.ref (a)] nx M (tPost none nx M a cd ds ps ch wc wd 0 0) := by
  obtain ⟨h0, h1, h2, h3, h4, h5, h6, hz, hcp⟩ := id hT
  refine yC (by decide) (Nat.le_of_ble_eq_true rfl) ?_
  intro p e s m args below meth c D F hr hn
  refine x_aload_n F 0 dT_clear_0 rfl rfl ?_
  refine x_iconst F (v := nI (0)) dT_clear_1 (by decide) ?_
  refine x_put (ci := 4) (ty := .int) F 6 (x_in inT) tT tT_ok nT rfl (by decide) (x_m kfT_31) dT_clear_2 rfl (by decide +kernel) rfl rfl h0 (Nat.le_of_ble_eq_true rfl) ?_
  show xW p l e ({ frames := 0, cells := 0, slots := 0, locals := 0 } : Room) s m args below meth c D xcl (x_A M nx) 1 (MQ below (x_Q D xcl (x_A M nx) (tPost none nx M a cd ds ps ch wc wd 0 0)) args s 0 0 (x_A M nx)) 0 0 (nx) (x_up M (a) (.inr (4, [.ref (a + 1), .ref (a + 2), .ref (a + 3), .ref (a + 4), .ref (a + 5), .ref (a + 6), .int (nI (0)), .int (nI (cp))]))) 5 [(0, .ref (a))] []
  refine x_aload_n F 0 dT_clear_5 rfl rfl ?_
  refine x_iconst F (v := nI (0)) dT_clear_6 (by decide) ?_
  refine x_put (ci := 4) (ty := .int) F 7 (x_in inT) tT tT_ok nT rfl (by decide) (x_m kfT_35) dT_clear_7 rfl (by decide +kernel) rfl rfl x_up_s (Nat.le_of_ble_eq_true rfl) ?_
  show xW p l e ({ frames := 0, cells := 0, slots := 0, locals := 0 } : Room) s m args below meth c D xcl (x_A M nx) 1 (MQ below (x_Q D xcl (x_A M nx) (tPost none nx M a cd ds ps ch wc wd 0 0)) args s 0 0 (x_A M nx)) 0 0 (nx) (x_up (x_up M (a) (.inr (4, [.ref (a + 1), .ref (a + 2), .ref (a + 3), .ref (a + 4), .ref (a + 5), .ref (a + 6), .int (nI (0)), .int (nI (cp))]))) (a) (.inr (4, [.ref (a + 1), .ref (a + 2), .ref (a + 3), .ref (a + 4), .ref (a + 5), .ref (a + 6), .int (nI (0)), .int (nI (0))]))) 10 [(0, .ref (a))] []
  exact x_vret F hr dT_clear_10 (⟨rfl, rfl, ⟨x_up_s, (x_up_k (x_up_k h1 (by omega)) (by omega)), (x_up_k (x_up_k h2 (by omega)) (by omega)), (x_up_k (x_up_k h3 (by omega)) (by omega)), (x_up_k (x_up_k h4 (by omega)) (by omega)), (x_up_k (x_up_k h5 (by omega)) (by omega)), (x_up_k (x_up_k h6 (by omega)) (by omega)), by omega, by omega⟩, fun b hb => (x_up_n (by omega)).trans ((x_up_n (by omega)).trans (rfl))⟩)
set_option maxHeartbeats 4000000 in
set_option maxRecDepth 100000 in
theorem cT_add (l : Launch) (nx : Nat) (M : xH) (a : Nat) (cd : Nat → Int64) (ds ps ch wc : Nat → Int32) (wd : Nat → Int64) (n cp : Nat) (hT : tAt M a cd ds ps ch wc wd n cp) (r : Nat) (sg : Nat → Int32) (w1 : Nat → Int64) (cw rl rq : Nat) (fk fp : Int32) (hRd : rAt M r sg w1 cw rl rq fk fp) (hc4 : cw ≤ 4) (hdis : a + 6 < r ∨ r + 2 < a) (hn40 : n < 40) (hcn : cp ≤ n) (co : Int64) (dd : Int32) : xC l xcl yT_add (xw (Cond.code yT_add bT_add 7 none)) ({ frames := 1, cells := 0, slots := 0, locals := 22 } : Room) [.ref (a), .long (co), .int (dd), .ref (r)] nx M (tPost none nx M a (vp_updL cd n co) (upd ds n dd) (upd ps n (oi (par ds dd n))) (chi ch n (par ds dd n)) (upd wc n (nI cw)) (wcp w1 (n * 4) cw wd) (n + 1) (chp cp (par ds dd n))) := by
  obtain ⟨h0, h1, h2, h3, h4, h5, h6, hz, hcp⟩ := id hT
  obtain ⟨q0, q1, q2, q3, q4, q5⟩ := id hRd
  refine yC (by decide) (Nat.le_of_ble_eq_true rfl) ?_
  intro p e s m args below meth c D F hr hn
  have loop : ∀ (f : Nat) (k : Nat) (M1 : xH), k + f = cw → tAt M1 a (vp_updL cd n co) (upd ds n dd) (upd ps n (oi (par ds dd n))) (upd ch n (nI 0)) (upd wc n (nI cw)) (wcp w1 (n * 4) k wd) n cp → (∀ b, (b < a ∨ a + 6 < b) → M1 b = M b) → xW p l e ({ frames := 1, cells := 0, slots := 0, locals := 22 } : Room) s m args below meth c D xcl (x_A M nx) 7 (MQ below (x_Q D xcl (x_A M nx) (tPost none nx M a (vp_updL cd n co) (upd ds n dd) (upd ps n (oi (par ds dd n))) (chi ch n (par ds dd n)) (upd wc n (nI cw)) (wcp w1 (n * 4) cw wd) (n + 1) (chp cp (par ds dd n)))) args s 0 0 (x_A M nx)) 0 0 (nx) M1 77 [(6, .int (nI (k))), (5, .int (oi (par ds dd n))), (0, .ref (a)), (1, .long (co)), (3, .int (dd)), (4, .ref (r))] [] := by
    intro f
    induction f with
    | zero =>
      intro k M1 hi hT1 hfr
      obtain ⟨g0, g1, g2, g3, g4, g5, g6, g7, g8⟩ := id hT1
      have hR1 : rAt M1 r sg w1 cw rl rq fk fp := rAt_fr hRd (fun b _ _ => hfr b (by omega))
      obtain ⟨q0, q1, q2, q3, q4, q5⟩ := id hR1
      refine x_iload F 0 dT_add_77 rfl ?_
      refine x_aload_n F 2 dT_add_79 rfl rfl ?_
      refine x_get (ci := 4) F 4 (x_in inT) rfl (by decide) (x_m kfT_25) dT_add_80 g0 rfl ?_
      refine x_aload_n F 2 dT_add_83 rfl rfl ?_
      refine x_get (ci := 4) F 6 (x_in inT) rfl (by decide) (x_m kfT_31) dT_add_84 g0 rfl ?_
      refine x_iald F dT_add_87 g5 (pk_in (n) (40) (by omega)) ?_
      refine xW.toi (nI (cw)) (by rw [nI_clamp (by omega)]; exact pk_us) ?_
      refine x_icmp_ge F (tgt := 118) dT_add_88 (by decide) (fun c1 => ?_) (fun c1 => ?_)
      · skip
        have c1 : cw ≤ k := by
          exact (nI_leI (a := cw) (b := k) (by omega) (by omega)).mp c1
        have hk : k = cw := by omega
        have hw6 : wcp w1 (n * 4) k wd = wcp w1 (n * 4) cw wd := by rw [hk]
        rcases o_cases (par ds dd n) with hpj | ⟨j, hpj⟩
        · skip
          refine xW.lve (lv' := [(6, .int (nI (k))), (5, .int ((-1))), (0, .ref (a)), (1, .long (co)), (3, .int (dd)), (4, .ref (r))]) (by rw [hpj]; rfl) ?_
          refine x_aload_n F 2 dT_add_118 rfl rfl ?_
          refine x_iload F 1 dT_add_119 rfl ?_
          refine yV (n := 1) (As := [.int ((-1))]) (ci := 4) F kmT_38 kiT_has ksT_has knT kcT_has (by decide +kernel) dT_add_121 (cT_hasN l (nx) M1 (a) (vp_updL cd n co) (upd ds n dd) (upd ps n (oi (par ds dd n))) (upd ch n (nI 0)) (upd wc n (nI cw)) (wcp w1 (n * 4) k wd) n cp hT1 (-1) (m1_out _)) rfl g0 rfl rfl (Nat.le_of_ble_eq_true rfl) ⟨Nat.le_of_ble_eq_true rfl, Nat.le_of_ble_eq_true rfl⟩ ⟨Nat.le_of_ble_eq_true rfl, Nat.le_of_ble_eq_true rfl⟩ ?_
          refine x_if_eq F (tgt := 141) dT_add_124 (by decide) (fun c2 => ?_) (fun c2 => ?_)
          · skip
            have c2 : 0 = 0 := by
              exact (nI_eq (a := 0) (b := 0) (by omega) (by omega)).mp c2
            refine x_aload_n F 2 dT_add_141 rfl rfl ?_
            refine x_dup F dT_add_142 rfl ?_
            refine x_get (ci := 4) F 7 (x_in inT) rfl (by decide) (x_m kfT_35) dT_add_143 g0 rfl ?_
            refine x_iconst F (v := nI (1)) dT_add_146 (by decide) ?_
            refine x_iadd F dT_add_147 ?_
            refine xW.toi (nI (cp + 1)) (nI_add _ _) ?_
            refine x_put (ci := 4) (ty := .int) F 7 (x_in inT) tT tT_ok nT rfl (by decide) (x_m kfT_35) dT_add_148 rfl (by decide +kernel) rfl rfl g0 (Nat.le_of_ble_eq_true rfl) ?_
            show xW p l e ({ frames := 1, cells := 0, slots := 0, locals := 22 } : Room) s m args below meth c D xcl (x_A M nx) 7 (MQ below (x_Q D xcl (x_A M nx) (tPost none nx M a (vp_updL cd n co) (upd ds n dd) (upd ps n (oi (par ds dd n))) (chi ch n (par ds dd n)) (upd wc n (nI cw)) (wcp w1 (n * 4) cw wd) (n + 1) (chp cp (par ds dd n)))) args s 0 0 (x_A M nx)) 0 0 (nx) (x_up M1 (a) (.inr (4, [.ref (a + 1), .ref (a + 2), .ref (a + 3), .ref (a + 4), .ref (a + 5), .ref (a + 6), .int (nI (n)), .int (nI (cp + 1))]))) 151 [(6, .int (nI (k))), (5, .int ((-1))), (0, .ref (a)), (1, .long (co)), (3, .int (dd)), (4, .ref (r))] []
            refine x_aload_n F 2 dT_add_151 rfl rfl ?_
            refine x_dup F dT_add_152 rfl ?_
            refine x_get (ci := 4) F 6 (x_in inT) rfl (by decide) (x_m kfT_31) dT_add_153 x_up_s rfl ?_
            refine x_iconst F (v := nI (1)) dT_add_156 (by decide) ?_
            refine x_iadd F dT_add_157 ?_
            refine xW.toi (nI (n + 1)) (nI_add _ _) ?_
            refine x_put (ci := 4) (ty := .int) F 6 (x_in inT) tT tT_ok nT rfl (by decide) (x_m kfT_31) dT_add_158 rfl (by decide +kernel) rfl rfl x_up_s (Nat.le_of_ble_eq_true rfl) ?_
            show xW p l e ({ frames := 1, cells := 0, slots := 0, locals := 22 } : Room) s m args below meth c D xcl (x_A M nx) 7 (MQ below (x_Q D xcl (x_A M nx) (tPost none nx M a (vp_updL cd n co) (upd ds n dd) (upd ps n (oi (par ds dd n))) (chi ch n (par ds dd n)) (upd wc n (nI cw)) (wcp w1 (n * 4) cw wd) (n + 1) (chp cp (par ds dd n)))) args s 0 0 (x_A M nx)) 0 0 (nx) (x_up (x_up M1 (a) (.inr (4, [.ref (a + 1), .ref (a + 2), .ref (a + 3), .ref (a + 4), .ref (a + 5), .ref (a + 6), .int (nI (n)), .int (nI (cp + 1))]))) (a) (.inr (4, [.ref (a + 1), .ref (a + 2), .ref (a + 3), .ref (a + 4), .ref (a + 5), .ref (a + 6), .int (nI (n + 1)), .int (nI (cp + 1))]))) 161 [(6, .int (nI (k))), (5, .int ((-1))), (0, .ref (a)), (1, .long (co)), (3, .int (dd)), (4, .ref (r))] []
            exact x_vret F hr dT_add_161 (⟨rfl, rfl, by rw [show chi ch n (par ds dd n) = upd ch n (nI 0) from by rw [hpj]; rfl, show chp cp (par ds dd n) = cp + 1 from by rw [hpj]; rfl, ← hw6]; exact ⟨x_up_s, (x_up_k (x_up_k g1 (by omega)) (by omega)), (x_up_k (x_up_k g2 (by omega)) (by omega)), (x_up_k (x_up_k g3 (by omega)) (by omega)), (x_up_k (x_up_k g4 (by omega)) (by omega)), (x_up_k (x_up_k g5 (by omega)) (by omega)), (x_up_k (x_up_k g6 (by omega)) (by omega)), by omega, by omega⟩, fun b hb => (x_up_n (by omega)).trans ((x_up_n (by omega)).trans ((hfr _ hb).trans (rfl)))⟩)
          · skip
            have c2 : 0 ≠ 0 := by
              have z : ¬ (0 = 0) := fun zz => c2 ((nI_eq (a := 0) (b := 0) (by omega) (by omega)).mpr zz)
              omega
            exact absurd c2 (by decide)
        · skip
          have hj : j < n := (la_lt hpj).1
          refine xW.lve (lv' := [(6, .int (nI (k))), (5, .int (nI (j))), (0, .ref (a)), (1, .long (co)), (3, .int (dd)), (4, .ref (r))]) (by rw [hpj]; rfl) ?_
          refine x_aload_n F 2 dT_add_118 rfl rfl ?_
          refine x_iload F 1 dT_add_119 rfl ?_
          refine yV (n := 1) (As := [.int (nI (j))]) (ci := 4) F kmT_38 kiT_has ksT_has knT kcT_has (by decide +kernel) dT_add_121 (cT_has l (nx) M1 (a) (vp_updL cd n co) (upd ds n dd) (upd ps n (oi (par ds dd n))) (upd ch n (nI 0)) (upd wc n (nI cw)) (wcp w1 (n * 4) k wd) n cp hT1 j (by omega)) rfl g0 rfl rfl (Nat.le_of_ble_eq_true rfl) ⟨Nat.le_of_ble_eq_true rfl, Nat.le_of_ble_eq_true rfl⟩ ⟨Nat.le_of_ble_eq_true rfl, Nat.le_of_ble_eq_true rfl⟩ ?_
          refine x_if_eq F (tgt := 141) dT_add_124 (by decide) (fun c3 => ?_) (fun c3 => ?_)
          · skip
            have c3 : 1 = 0 := by
              exact (nI_eq (a := 1) (b := 0) (by omega) (by omega)).mp c3
            exact absurd c3 (by decide)
          · skip
            have c3 : 1 ≠ 0 := by
              have z : ¬ (1 = 0) := fun zz => c3 ((nI_eq (a := 1) (b := 0) (by omega) (by omega)).mpr zz)
              omega
            refine x_aload_n F 2 dT_add_127 rfl rfl ?_
            refine x_get (ci := 4) F 3 (x_in inT) rfl (by decide) (x_m kfT_22) dT_add_128 g0 rfl ?_
            refine x_iload F 1 dT_add_131 rfl ?_
            refine x_dup2 F dT_add_133 rfl rfl ?_
            refine x_iald F dT_add_134 g4 (pk_in (j) (40) (by omega)) ?_
            refine xW.toi (((upd ch n (nI 0))) (j)) (by rw [nI_clamp (by omega)]) ?_
            refine x_iconst F (v := nI (1)) dT_add_135 (by decide) ?_
            refine x_iadd F dT_add_136 ?_
            refine x_iast F dT_add_137 g4 (pk_in (j) (40) (by omega)) ?_
            rw [nI_clamp (show j < 2 ^ 31 by omega)]
            show xW p l e ({ frames := 1, cells := 0, slots := 0, locals := 22 } : Room) s m args below meth c D xcl (x_A M nx) 7 (MQ below (x_Q D xcl (x_A M nx) (tPost none nx M a (vp_updL cd n co) (upd ds n dd) (upd ps n (oi (par ds dd n))) (chi ch n (par ds dd n)) (upd wc n (nI cw)) (wcp w1 (n * 4) cw wd) (n + 1) (chp cp (par ds dd n)))) args s 0 0 (x_A M nx)) 0 0 (nx) (x_up M1 (a + 4) (.inl (.int, 40, .inl (upd ((upd ch n (nI 0))) (j) ((((upd ch n (nI 0))) (j)) + (nI (1))))))) 138 [(6, .int (nI (k))), (5, .int (nI (j))), (0, .ref (a)), (1, .long (co)), (3, .int (dd)), (4, .ref (r))] []
            refine x_goto F (tgt := 151) dT_add_138 (by decide) ?_
            refine x_aload_n F 2 dT_add_151 rfl rfl ?_
            refine x_dup F dT_add_152 rfl ?_
            refine x_get (ci := 4) F 6 (x_in inT) rfl (by decide) (x_m kfT_31) dT_add_153 (x_up_k g0 (by omega)) rfl ?_
            refine x_iconst F (v := nI (1)) dT_add_156 (by decide) ?_
            refine x_iadd F dT_add_157 ?_
            refine xW.toi (nI (n + 1)) (nI_add _ _) ?_
            refine x_put (ci := 4) (ty := .int) F 6 (x_in inT) tT tT_ok nT rfl (by decide) (x_m kfT_31) dT_add_158 rfl (by decide +kernel) rfl rfl (x_up_k g0 (by omega)) (Nat.le_of_ble_eq_true rfl) ?_
            show xW p l e ({ frames := 1, cells := 0, slots := 0, locals := 22 } : Room) s m args below meth c D xcl (x_A M nx) 7 (MQ below (x_Q D xcl (x_A M nx) (tPost none nx M a (vp_updL cd n co) (upd ds n dd) (upd ps n (oi (par ds dd n))) (chi ch n (par ds dd n)) (upd wc n (nI cw)) (wcp w1 (n * 4) cw wd) (n + 1) (chp cp (par ds dd n)))) args s 0 0 (x_A M nx)) 0 0 (nx) (x_up (x_up M1 (a + 4) (.inl (.int, 40, .inl (upd ((upd ch n (nI 0))) (j) ((((upd ch n (nI 0))) (j)) + (nI (1))))))) (a) (.inr (4, [.ref (a + 1), .ref (a + 2), .ref (a + 3), .ref (a + 4), .ref (a + 5), .ref (a + 6), .int (nI (n + 1)), .int (nI (cp))]))) 161 [(6, .int (nI (k))), (5, .int (nI (j))), (0, .ref (a)), (1, .long (co)), (3, .int (dd)), (4, .ref (r))] []
            exact x_vret F hr dT_add_161 (⟨rfl, rfl, by rw [show chi ch n (par ds dd n) = upd (upd ch n (nI 0)) j ((upd ch n (nI 0)) j + nI 1) from by rw [hpj]; rfl, show chp cp (par ds dd n) = cp from by rw [hpj]; rfl, ← hw6]; exact ⟨x_up_s, (x_up_k (x_up_k g1 (by omega)) (by omega)), (x_up_k (x_up_k g2 (by omega)) (by omega)), (x_up_k (x_up_k g3 (by omega)) (by omega)), (x_up_k x_up_s (by omega)), (x_up_k (x_up_k g5 (by omega)) (by omega)), (x_up_k (x_up_k g6 (by omega)) (by omega)), by omega, by omega⟩, fun b hb => (x_up_n (by omega)).trans ((x_up_n (by omega)).trans ((hfr _ hb).trans (rfl)))⟩)
      · skip
        have c1 : k < cw := by
          have z : ¬ (cw ≤ k) := fun zz => c1 ((nI_leI (a := cw) (b := k) (by omega) (by omega)).mpr zz)
          omega
        exact absurd c1 (by omega)
    | succ f ih =>
      intro k M1 hi hT1 hfr
      obtain ⟨g0, g1, g2, g3, g4, g5, g6, g7, g8⟩ := id hT1
      have hR1 : rAt M1 r sg w1 cw rl rq fk fp := rAt_fr hRd (fun b _ _ => hfr b (by omega))
      obtain ⟨q0, q1, q2, q3, q4, q5⟩ := id hR1
      refine x_iload F 0 dT_add_77 rfl ?_
      refine x_aload_n F 2 dT_add_79 rfl rfl ?_
      refine x_get (ci := 4) F 4 (x_in inT) rfl (by decide) (x_m kfT_25) dT_add_80 g0 rfl ?_
      refine x_aload_n F 2 dT_add_83 rfl rfl ?_
      refine x_get (ci := 4) F 6 (x_in inT) rfl (by decide) (x_m kfT_31) dT_add_84 g0 rfl ?_
      refine x_iald F dT_add_87 g5 (pk_in (n) (40) (by omega)) ?_
      refine xW.toi (nI (cw)) (by rw [nI_clamp (by omega)]; exact pk_us) ?_
      refine x_icmp_ge F (tgt := 118) dT_add_88 (by decide) (fun c4 => ?_) (fun c4 => ?_)
      · skip
        have c4 : cw ≤ k := by
          exact (nI_leI (a := cw) (b := k) (by omega) (by omega)).mp c4
        exact absurd c4 (by omega)
      · skip
        have c4 : k < cw := by
          have z : ¬ (cw ≤ k) := fun zz => c4 ((nI_leI (a := cw) (b := k) (by omega) (by omega)).mpr zz)
          omega
        refine x_aload_n F 2 dT_add_91 rfl rfl ?_
        refine x_get (ci := 4) F 5 (x_in inT) rfl (by decide) (x_m kfT_28) dT_add_92 g0 rfl ?_
        refine x_aload_n F 2 dT_add_95 rfl rfl ?_
        refine x_get (ci := 4) F 6 (x_in inT) rfl (by decide) (x_m kfT_31) dT_add_96 g0 rfl ?_
        refine x_iconst F (v := nI (4)) dT_add_99 (by decide) ?_
        refine x_imul F dT_add_100 ?_
        refine xW.toi (nI ((n) * (4))) (pk_mul _ _) ?_
        refine x_iload F 0 dT_add_101 rfl ?_
        refine x_iadd F dT_add_103 ?_
        refine xW.toi (nI ((n) * (4) + k)) (nI_add _ _) ?_
        refine x_aload F 5 dT_add_104 rfl ?_
        refine x_iload F 0 dT_add_106 rfl ?_
        refine yV (n := 1) (As := [.int (nI (k))]) (ci := 3) F kmT_82 kiR_wordAt ksR_wordAt knR kcR_wordAt (by decide +kernel) dT_add_108 (cR_wordAt l (nx) M1 (r) sg w1 cw rl rq fk fp hR1 (k) (by omega)) rfl q0 rfl rfl (Nat.le_of_ble_eq_true rfl) ⟨Nat.le_of_ble_eq_true rfl, Nat.le_of_ble_eq_true rfl⟩ ⟨Nat.le_of_ble_eq_true rfl, Nat.le_of_ble_eq_true rfl⟩ ?_
        refine x_last F dT_add_111 g6 (pk_in ((n) * (4) + k) (160) (by omega)) ?_
        rw [nI_clamp (show (n) * (4) + k < 2 ^ 31 by omega)]
        show xW p l e ({ frames := 1, cells := 0, slots := 0, locals := 22 } : Room) s m args below meth c D xcl (x_A M nx) 7 (MQ below (x_Q D xcl (x_A M nx) (tPost none nx M a (vp_updL cd n co) (upd ds n dd) (upd ps n (oi (par ds dd n))) (chi ch n (par ds dd n)) (upd wc n (nI cw)) (wcp w1 (n * 4) cw wd) (n + 1) (chp cp (par ds dd n)))) args s 0 0 (x_A M nx)) 0 0 (nx) (x_up M1 (a + 6) (.inl (.long, 160, .inr (.inl (vp_updL ((wcp w1 (n * 4) k wd)) ((n) * (4) + k) (w1 (k))))))) 112 [(6, .int (nI (k))), (5, .int (oi (par ds dd n))), (0, .ref (a)), (1, .long (co)), (3, .int (dd)), (4, .ref (r))] []
        refine x_iinc F 0 [(6, .int (nI (k + 1))), (5, .int (oi (par ds dd n))), (0, .ref (a)), (1, .long (co)), (3, .int (dd)), (4, .ref (r))] dT_add_112 rfl (nI_add (k) 1) (by decide) rfl ?_
        refine x_goto F (tgt := 77) dT_add_115 (by decide) ?_
        exact ih (k + 1) _ (by omega) ⟨(x_up_k g0 (by omega)), (x_up_k g1 (by omega)), (x_up_k g2 (by omega)), (x_up_k g3 (by omega)), (x_up_k g4 (by omega)), (x_up_k g5 (by omega)), x_up_s, by omega, by omega⟩ (fun b hb => (x_up_n (by omega)).trans ((hfr _ hb).trans (rfl)))
  refine x_aload_n F 0 dT_add_0 rfl rfl ?_
  refine yV (n := 0) (As := []) (ci := 4) F kmT_63 kiT_isFull ksT_isFull knT kcT_isFull (by decide +kernel) dT_add_1 (cT_isFull l (nx) M (a) cd ds ps ch wc wd n cp hT ) rfl h0 rfl rfl (Nat.le_of_ble_eq_true rfl) ⟨Nat.le_of_ble_eq_true rfl, Nat.le_of_ble_eq_true rfl⟩ ⟨Nat.le_of_ble_eq_true rfl, Nat.le_of_ble_eq_true rfl⟩ ?_
  refine x_if_eq F (tgt := 8) dT_add_4 (by decide) (fun c5 => ?_) (fun c5 => ?_)
  · skip
    have c5 : (decide (40 ≤ n)) = false := bI_0 c5
    refine x_aload_n F 0 dT_add_8 rfl rfl ?_
    refine x_iload_n F 2 dT_add_9 rfl rfl ?_
    refine yV (n := 1) (As := [.int (dd)]) (ci := 4) F kmT_67 kiT_parentFor ksT_parentFor knT kcT_parentFor (by decide +kernel) dT_add_10 (cT_parentFor l (nx) M (a) cd ds ps ch wc wd n cp hT (dd)) rfl h0 rfl rfl (Nat.le_of_ble_eq_true rfl) ⟨Nat.le_of_ble_eq_true rfl, Nat.le_of_ble_eq_true rfl⟩ ⟨Nat.le_of_ble_eq_true rfl, Nat.le_of_ble_eq_true rfl⟩ ?_
    refine x_istore F [(5, .int (oi (la (fun i => decide ((ds) i = (dd) - nI 1)) (n)))), (0, .ref (a)), (1, .long (co)), (3, .int (dd)), (4, .ref (r))] dT_add_13 (by decide) rfl ?_
    refine x_aload_n F 1 dT_add_15 rfl rfl ?_
    refine x_get (ci := 4) F 0 (x_in inT) rfl (by decide) (x_m kfT_9) dT_add_16 h0 rfl ?_
    refine x_aload_n F 1 dT_add_19 rfl rfl ?_
    refine x_get (ci := 4) F 6 (x_in inT) rfl (by decide) (x_m kfT_31) dT_add_20 h0 rfl ?_
    refine x_lload_n F 2 dT_add_23 rfl rfl ?_
    refine x_last F dT_add_24 h1 (pk_in (n) (40) (by omega)) ?_
    rw [nI_clamp (show n < 2 ^ 31 by omega)]
    show xW p l e ({ frames := 1, cells := 0, slots := 0, locals := 22 } : Room) s m args below meth c D xcl (x_A M nx) 7 (MQ below (x_Q D xcl (x_A M nx) (tPost none nx M a (vp_updL cd n co) (upd ds n dd) (upd ps n (oi (par ds dd n))) (chi ch n (par ds dd n)) (upd wc n (nI cw)) (wcp w1 (n * 4) cw wd) (n + 1) (chp cp (par ds dd n)))) args s 0 0 (x_A M nx)) 0 0 (nx) (x_up M (a + 1) (.inl (.long, 40, .inr (.inl (vp_updL (cd) (n) (co)))))) 25 [(5, .int (oi (la (fun i => decide ((ds) i = (dd) - nI 1)) (n)))), (0, .ref (a)), (1, .long (co)), (3, .int (dd)), (4, .ref (r))] []
    refine x_aload_n F 1 dT_add_25 rfl rfl ?_
    refine x_get (ci := 4) F 1 (x_in inT) rfl (by decide) (x_m kfT_15) dT_add_26 (x_up_k h0 (by omega)) rfl ?_
    refine x_aload_n F 1 dT_add_29 rfl rfl ?_
    refine x_get (ci := 4) F 6 (x_in inT) rfl (by decide) (x_m kfT_31) dT_add_30 (x_up_k h0 (by omega)) rfl ?_
    refine x_iload_n F 3 dT_add_33 rfl rfl ?_
    refine x_iast F dT_add_34 (x_up_k h2 (by omega)) (pk_in (n) (40) (by omega)) ?_
    rw [nI_clamp (show n < 2 ^ 31 by omega)]
    show xW p l e ({ frames := 1, cells := 0, slots := 0, locals := 22 } : Room) s m args below meth c D xcl (x_A M nx) 7 (MQ below (x_Q D xcl (x_A M nx) (tPost none nx M a (vp_updL cd n co) (upd ds n dd) (upd ps n (oi (par ds dd n))) (chi ch n (par ds dd n)) (upd wc n (nI cw)) (wcp w1 (n * 4) cw wd) (n + 1) (chp cp (par ds dd n)))) args s 0 0 (x_A M nx)) 0 0 (nx) (x_up (x_up M (a + 1) (.inl (.long, 40, .inr (.inl (vp_updL (cd) (n) (co)))))) (a + 2) (.inl (.int, 40, .inl (upd (ds) (n) (dd))))) 35 [(5, .int (oi (la (fun i => decide ((ds) i = (dd) - nI 1)) (n)))), (0, .ref (a)), (1, .long (co)), (3, .int (dd)), (4, .ref (r))] []
    refine x_aload_n F 1 dT_add_35 rfl rfl ?_
    refine x_get (ci := 4) F 2 (x_in inT) rfl (by decide) (x_m kfT_19) dT_add_36 (x_up_k (x_up_k h0 (by omega)) (by omega)) rfl ?_
    refine x_aload_n F 1 dT_add_39 rfl rfl ?_
    refine x_get (ci := 4) F 6 (x_in inT) rfl (by decide) (x_m kfT_31) dT_add_40 (x_up_k (x_up_k h0 (by omega)) (by omega)) rfl ?_
    refine x_iload F 0 dT_add_43 rfl ?_
    refine x_iast F dT_add_45 (x_up_k (x_up_k h3 (by omega)) (by omega)) (pk_in (n) (40) (by omega)) ?_
    rw [nI_clamp (show n < 2 ^ 31 by omega)]
    show xW p l e ({ frames := 1, cells := 0, slots := 0, locals := 22 } : Room) s m args below meth c D xcl (x_A M nx) 7 (MQ below (x_Q D xcl (x_A M nx) (tPost none nx M a (vp_updL cd n co) (upd ds n dd) (upd ps n (oi (par ds dd n))) (chi ch n (par ds dd n)) (upd wc n (nI cw)) (wcp w1 (n * 4) cw wd) (n + 1) (chp cp (par ds dd n)))) args s 0 0 (x_A M nx)) 0 0 (nx) (x_up (x_up (x_up M (a + 1) (.inl (.long, 40, .inr (.inl (vp_updL (cd) (n) (co)))))) (a + 2) (.inl (.int, 40, .inl (upd (ds) (n) (dd))))) (a + 3) (.inl (.int, 40, .inl (upd (ps) (n) (oi (la (fun i => decide ((ds) i = (dd) - nI 1)) (n))))))) 46 [(5, .int (oi (la (fun i => decide ((ds) i = (dd) - nI 1)) (n)))), (0, .ref (a)), (1, .long (co)), (3, .int (dd)), (4, .ref (r))] []
    refine x_aload_n F 1 dT_add_46 rfl rfl ?_
    refine x_get (ci := 4) F 3 (x_in inT) rfl (by decide) (x_m kfT_22) dT_add_47 (x_up_k (x_up_k (x_up_k h0 (by omega)) (by omega)) (by omega)) rfl ?_
    refine x_aload_n F 1 dT_add_50 rfl rfl ?_
    refine x_get (ci := 4) F 6 (x_in inT) rfl (by decide) (x_m kfT_31) dT_add_51 (x_up_k (x_up_k (x_up_k h0 (by omega)) (by omega)) (by omega)) rfl ?_
    refine x_iconst F (v := nI (0)) dT_add_54 (by decide) ?_
    refine x_iast F dT_add_55 (x_up_k (x_up_k (x_up_k h4 (by omega)) (by omega)) (by omega)) (pk_in (n) (40) (by omega)) ?_
    rw [nI_clamp (show n < 2 ^ 31 by omega)]
    show xW p l e ({ frames := 1, cells := 0, slots := 0, locals := 22 } : Room) s m args below meth c D xcl (x_A M nx) 7 (MQ below (x_Q D xcl (x_A M nx) (tPost none nx M a (vp_updL cd n co) (upd ds n dd) (upd ps n (oi (par ds dd n))) (chi ch n (par ds dd n)) (upd wc n (nI cw)) (wcp w1 (n * 4) cw wd) (n + 1) (chp cp (par ds dd n)))) args s 0 0 (x_A M nx)) 0 0 (nx) (x_up (x_up (x_up (x_up M (a + 1) (.inl (.long, 40, .inr (.inl (vp_updL (cd) (n) (co)))))) (a + 2) (.inl (.int, 40, .inl (upd (ds) (n) (dd))))) (a + 3) (.inl (.int, 40, .inl (upd (ps) (n) (oi (la (fun i => decide ((ds) i = (dd) - nI 1)) (n))))))) (a + 4) (.inl (.int, 40, .inl (upd (ch) (n) (nI (0)))))) 56 [(5, .int (oi (la (fun i => decide ((ds) i = (dd) - nI 1)) (n)))), (0, .ref (a)), (1, .long (co)), (3, .int (dd)), (4, .ref (r))] []
    refine x_aload_n F 1 dT_add_56 rfl rfl ?_
    refine x_get (ci := 4) F 4 (x_in inT) rfl (by decide) (x_m kfT_25) dT_add_57 (x_up_k (x_up_k (x_up_k (x_up_k h0 (by omega)) (by omega)) (by omega)) (by omega)) rfl ?_
    refine x_aload_n F 1 dT_add_60 rfl rfl ?_
    refine x_get (ci := 4) F 6 (x_in inT) rfl (by decide) (x_m kfT_31) dT_add_61 (x_up_k (x_up_k (x_up_k (x_up_k h0 (by omega)) (by omega)) (by omega)) (by omega)) rfl ?_
    refine x_aload F 4 dT_add_64 rfl ?_
    refine yV (n := 0) (As := []) (ci := 3) F kmT_70 kiR_wordCount ksR_wordCount knR kcR_wordCount (by decide +kernel) dT_add_66 (cR_wordCount l (nx) (x_up (x_up (x_up (x_up M (a + 1) (.inl (.long, 40, .inr (.inl (vp_updL (cd) (n) (co)))))) (a + 2) (.inl (.int, 40, .inl (upd (ds) (n) (dd))))) (a + 3) (.inl (.int, 40, .inl (upd (ps) (n) (oi (la (fun i => decide ((ds) i = (dd) - nI 1)) (n))))))) (a + 4) (.inl (.int, 40, .inl (upd (ch) (n) (nI (0)))))) (r) sg w1 cw rl rq fk fp (rAt_fr (rAt_fr (rAt_fr (rAt_fr hRd (fun b _ _ => x_up_n (by omega))) (fun b _ _ => x_up_n (by omega))) (fun b _ _ => x_up_n (by omega))) (fun b _ _ => x_up_n (by omega))) ) rfl (x_up_k (x_up_k (x_up_k (x_up_k q0 (by omega)) (by omega)) (by omega)) (by omega)) rfl rfl (Nat.le_of_ble_eq_true rfl) ⟨Nat.le_of_ble_eq_true rfl, Nat.le_of_ble_eq_true rfl⟩ ⟨Nat.le_of_ble_eq_true rfl, Nat.le_of_ble_eq_true rfl⟩ ?_
    refine x_iconst F (v := nI (4)) dT_add_69 (by decide) ?_
    refine x_mmin F (x_m kmT_76) (x_m ktJM_min) (x_m knJM) (x_m kcJM_min) dT_add_70 (Nat.le_of_ble_eq_true rfl) (Nat.le_of_ble_eq_true rfl) (Nat.le_of_ble_eq_true rfl) (Nat.le_of_ble_eq_true rfl) ?_
    refine xW.toi (nI (cw)) (if_neg (nI_nlt (by omega) (by omega))) ?_
    refine x_iast F dT_add_73 (x_up_k (x_up_k (x_up_k (x_up_k h5 (by omega)) (by omega)) (by omega)) (by omega)) (pk_in (n) (40) (by omega)) ?_
    rw [nI_clamp (show n < 2 ^ 31 by omega)]
    show xW p l e ({ frames := 1, cells := 0, slots := 0, locals := 22 } : Room) s m args below meth c D xcl (x_A M nx) 7 (MQ below (x_Q D xcl (x_A M nx) (tPost none nx M a (vp_updL cd n co) (upd ds n dd) (upd ps n (oi (par ds dd n))) (chi ch n (par ds dd n)) (upd wc n (nI cw)) (wcp w1 (n * 4) cw wd) (n + 1) (chp cp (par ds dd n)))) args s 0 0 (x_A M nx)) 0 0 (nx) (x_up (x_up (x_up (x_up (x_up M (a + 1) (.inl (.long, 40, .inr (.inl (vp_updL (cd) (n) (co)))))) (a + 2) (.inl (.int, 40, .inl (upd (ds) (n) (dd))))) (a + 3) (.inl (.int, 40, .inl (upd (ps) (n) (oi (la (fun i => decide ((ds) i = (dd) - nI 1)) (n))))))) (a + 4) (.inl (.int, 40, .inl (upd (ch) (n) (nI (0)))))) (a + 5) (.inl (.int, 40, .inl (upd (wc) (n) (nI (cw)))))) 74 [(5, .int (oi (la (fun i => decide ((ds) i = (dd) - nI 1)) (n)))), (0, .ref (a)), (1, .long (co)), (3, .int (dd)), (4, .ref (r))] []
    refine x_iconst F (v := nI (0)) dT_add_74 (by decide) ?_
    refine x_istore F [(6, .int (nI (0))), (5, .int (oi (la (fun i => decide ((ds) i = (dd) - nI 1)) (n)))), (0, .ref (a)), (1, .long (co)), (3, .int (dd)), (4, .ref (r))] dT_add_75 (by decide) rfl ?_
    exact loop cw 0 _ (by omega) ⟨(x_up_k (x_up_k (x_up_k (x_up_k (x_up_k h0 (by omega)) (by omega)) (by omega)) (by omega)) (by omega)), (x_up_k (x_up_k (x_up_k (x_up_k x_up_s (by omega)) (by omega)) (by omega)) (by omega)), (x_up_k (x_up_k (x_up_k x_up_s (by omega)) (by omega)) (by omega)), (x_up_k (x_up_k x_up_s (by omega)) (by omega)), (x_up_k x_up_s (by omega)), x_up_s, (x_up_k (x_up_k (x_up_k (x_up_k (x_up_k h6 (by omega)) (by omega)) (by omega)) (by omega)) (by omega)), by omega, by omega⟩ (fun b hb => (x_up_n (by omega)).trans ((x_up_n (by omega)).trans ((x_up_n (by omega)).trans ((x_up_n (by omega)).trans ((x_up_n (by omega)).trans (rfl))))))
  · skip
    have c5 : (decide (40 ≤ n)) = true := bI_1 c5
    simp at c5
    exact absurd hn40 (by omega)
