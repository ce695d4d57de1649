/-! an edition's number; a code of an edition; two editions -/
def inE (e : Int32) : Bool := (! decide (e < 0)) && (! decide (nI 3 ≤ e))
theorem inE_n {e : Int32} (h : inE e = true) : ∃ k, k < 3 ∧ e = nI k := by
  simp only [inE, Bool.and_eq_true, Bool.not_eq_true', decide_eq_false_iff_not] at h
  rcases pk_ix e (n := 3) (by decide) with q | q | ⟨j, hj, rfl⟩
  · exact absurd q h.1
  · exact absurd q h.2
  · exact ⟨j, hj, rfl⟩
theorem inE_k {k : Nat} (h : k < 3) : inE (nI k) = true := by
  rcases k with _ | _ | _ | k
  · decide
  · decide
  · decide
  · omega
def gHas (γ : gS) (e : Int32) (co : Int64) : Bool := inE e && (tFind (γ.2.2.2.1 e.toNatClampNeg) co).isSome
theorem gHas_n (γ : gS) {k : Nat} (h : k < 3) (co : Int64) : gHas γ (nI k) co = (tFind (γ.2.2.2.1 k) co).isSome := by
  rw [gHas, inE_k h, nI_clamp (by omega)]; rfl
theorem gHas_f {γ : gS} {e : Int32} {co : Int64} (h : inE e = false) : gHas γ e co = false := by rw [gHas, h]; rfl
def edOk (a b : Int32) : Bool := inE a && (inE b && ! decide (a = b))
def gPost (v : Option Value) (nx : Nat) (M : xH) (g : Nat) (γ : gS) : xO → Nat → xH → Prop := fun r n' M' => r = v ∧ n' = nx ∧ gIs M' g γ ∧ ∀ b, (b < g ∨ g + 45 < b) → M' b = M b
def gPostT (nx : Nat) (M : xH) (g : Nat) (γ : gS) : Nat → xH → Prop := fun n' M' => nx ≤ n' ∧ gIs M' g γ ∧ ∀ b, (b < g ∨ g + 45 < b) → M' b = M b
theorem gFix {nx : Nat} {M : xH} {n' : Nat} (h : nx ≤ n') : (fun (n' : Nat) (M' : xH) => nx ≤ n' ∧ M' = M) n' M := ⟨h, rfl⟩
/-- nothing is changed but how many cells there are -/
def kPost (nx : Nat) (M : xH) : Nat → xH → Prop := fun n' M' => nx ≤ n' ∧ M' = M
/-- a pair of these -/
def pHas (σ : pS) (e : Int32) (co : Int64) (mm : Int32) (oo : Int64) : Bool := (fi (fun j => decide (σ.2.2.2.1 j = oo) && pMt σ.1 σ.2.1 σ.2.2.1 e co mm j) σ.2.2.2.2 0).isSome
def lkOk (γ : gS) (a : Int32) (co : Int64) (b : Int32) (oo : Int64) : Bool := (! decide (a = b)) && (gHas γ a co && (gHas γ b oo && ((! decide (60 ≤ γ.2.2.2.2.2.1.2.2.2.2)) && ! pHas γ.2.2.2.2.2.1 a co b oo)))
def ntA (γ : gS) (co : Int64) (kd : Int32) (oo : Int64) : Bool := (! (gHas γ (nI γ.2.1) co && gHas γ (nI γ.2.1) oo)) || (decide (co = oo) || ((! decide (kd = 0)) && ! decide (kd = nI 1)))
def ntS (γ : gS) (co : Int64) (kd : Int32) (oo : Int64) : Bool := decide (20 ≤ γ.2.2.2.2.1.2.2.2.2) || pHas γ.2.2.2.2.1 (nI γ.2.1) co kd oo
def gLk (γ : gS) (σ : pS) : gS := (γ.1, γ.2.1, γ.2.2.1, γ.2.2.2.1, γ.2.2.2.2.1, σ, γ.2.2.2.2.2.2)
def gNt (γ : gS) (σ : pS) : gS := (γ.1, γ.2.1, γ.2.2.1, γ.2.2.2.1, σ, γ.2.2.2.2.2)
def gRd (γ : gS) (ρ : rS) : gS := (γ.1, γ.2.1, ρ, γ.2.2.2)
def gPr (γ : gS) (k : Nat) : gS := (γ.1, k, γ.2.2)
def gFn (γ : gS) (φ : fS) : gS := (γ.1, γ.2.1, γ.2.2.1, γ.2.2.2.1, γ.2.2.2.2.1, γ.2.2.2.2.2.1, φ)
theorem toInt_in {x : Int32} {n : Nat} (hn : n < 2 ^ 31) (h : ¬ vp_in x n) {lo hi : Int} (hl : lo = 0) (hh : hi = (n : Int) - 1) : x.toInt < lo ∨ hi < x.toInt := by
  rw [vp_in_iff] at h
  omega
/-- what a code was noted with, the i-th -/
def ndd (γ : gS) (co : Int64) (i : Int32) : Int32 := match nt (pMt γ.2.2.2.2.1.1 γ.2.2.2.2.1.2.1 γ.2.2.2.2.1.2.2.1 (nI γ.2.1) co (-1)) i γ.2.2.2.2.1.2.2.2.2 0 0 with
  | none => -1
  | some j => nI 2 * oi (tFind (γ.2.2.2.1 γ.2.1) (γ.2.2.2.2.1.2.2.2.1 j)) + γ.2.2.2.2.1.2.2.1 j
def lkd (γ : gS) (a : Int32) (co : Int64) (b i : Int32) : Int64 := match nt (pMt γ.2.2.2.2.2.1.1 γ.2.2.2.2.2.1.2.1 γ.2.2.2.2.2.1.2.2.1 a co b) i γ.2.2.2.2.2.1.2.2.2.2 0 0 with
  | none => 0
  | some j => γ.2.2.2.2.2.1.2.2.2.1 j
set_option maxHeartbeats 4000000 in
set_option maxRecDepth 100000 in
theorem cG_isEd (l : Launch) (nx : Nat) (M : xH) (e0 : Int32) : xC l xcl yG_isEdition (xw (Cond.code yG_isEdition bG_isEdition 1 (some .boolean))) ({ frames := 0, cells := 0, slots := 0, locals := 0 } : Room) [.int (e0)] nx M (x_is (some (.int (bI (inE e0)))) nx M) := by
  refine yC (by decide) (Nat.le_of_ble_eq_true rfl) ?_
  intro p e s m args below meth c D F hr hn
  refine x_iload_n F 0 dG_isEdition_0 rfl rfl ?_
  refine x_if_lt F (tgt := 13) dG_isEdition_1 (by decide) (fun c1 => ?_) (fun c1 => ?_)
  · skip
    refine x_iconst F (v := nI (0)) dG_isEdition_13 (by decide) ?_
    exact x_zret F hr (by rfl) dG_isEdition_14 (x_f (by simp [inE, c1]))
  · skip
    refine x_iload_n F 0 dG_isEdition_4 rfl rfl ?_
    refine x_iconst F (v := nI (3)) dG_isEdition_5 (by decide) ?_
    refine x_icmp_ge F (tgt := 13) dG_isEdition_6 (by decide) (fun c2 => ?_) (fun c2 => ?_)
    · skip
      refine x_iconst F (v := nI (0)) dG_isEdition_13 (by decide) ?_
      exact x_zret F hr (by rfl) dG_isEdition_14 (x_f (by simp [inE, c2]))
    · skip
      refine x_iconst F (v := nI (1)) dG_isEdition_9 (by decide) ?_
      refine x_goto F (tgt := 14) dG_isEdition_10 (by decide) ?_
      exact x_zret F hr (by rfl) dG_isEdition_14 (x_t (by simp [inE, c1, c2]))
set_option maxHeartbeats 4000000 in
set_option maxRecDepth 100000 in
theorem cG_hasC (l : Launch) (nx : Nat) (M : xH) (g : Nat) (γ : gS) (hG : gIs M g γ) (e0 : Int32) (co : Int64) : xC l xcl yG_hasCode (xw (Cond.code yG_hasCode bG_hasCode 4 (some .boolean))) ({ frames := 1, cells := 0, slots := 0, locals := 23 } : Room) [.ref (g), .int (e0), .long (co)] nx M (x_is (some (.int (bI (gHas γ e0 co)))) nx M) := by
  obtain ⟨⟨fT, h0, h4, hfT, hpr, hπ, hπi⟩, hRd, hTr, hNo, hLi, hFi⟩ := id hG
  have hpp := hπ γ.2.1 (by omega)
  refine yC (by decide) (Nat.le_of_ble_eq_true rfl) ?_
  intro p e s m args below meth c D F hr hn
  refine x_iload_n F 1 dG_hasCode_0 rfl rfl ?_
  refine yS (n := 1) (As := [.int (e0)]) F kmG_85 ktG_isEdition knG kcG_isEdition (by decide +kernel) dG_hasCode_1 (cG_isEd l (nx) M (e0)) rfl rfl (Nat.le_of_ble_eq_true rfl) ⟨Nat.le_of_ble_eq_true rfl, Nat.le_of_ble_eq_true rfl⟩ ⟨Nat.le_of_ble_eq_true rfl, Nat.le_of_ble_eq_true rfl⟩ ?_
  refine x_if_eq F (tgt := 25) dG_hasCode_4 (by decide) (fun c1 => ?_) (fun c1 => ?_)
  · skip
    have c1 : (inE (e0)) = false := bI_0 c1
    refine x_iconst F (v := nI (0)) dG_hasCode_25 (by decide) ?_
    exact x_zret F hr (by rfl) dG_hasCode_26 (x_f (gHas_f c1))
  · skip
    have c1 : (inE (e0)) = true := bI_1 c1
    obtain ⟨k, hk, rfl⟩ := inE_n c1
    refine x_aload_n F 0 dG_hasCode_7 rfl rfl ?_
    refine x_get (ci := 5) F 1 (x_in inG) rfl (by decide) (x_m kfG_18) dG_hasCode_8 h0 rfl ?_
    refine x_iload_n F 1 dG_hasCode_11 rfl rfl ?_
    refine x_aald F dG_hasCode_12 h4 (pk_in (k) (3) (by omega)) ?_
    rw [nI_clamp (show k < 2 ^ 31 by omega), hfT _ (by omega)]
    show xW p l e ({ frames := 1, cells := 0, slots := 0, locals := 23 } : Room) s m args below meth c D xcl (x_A M nx) 4 (MQ below (x_Q D xcl (x_A M nx) (x_is (some (.int (bI (gHas γ (nI k) co)))) nx M)) args s 0 0 (x_A M nx)) 0 0 (nx) M 13 [(0, .ref (g)), (1, .int (nI (k))), (2, .long (co))] [.ref (g + 18 + 7 * γ.1 k)]
    refine x_lload_n F 2 dG_hasCode_13 rfl rfl ?_
    refine yV (n := 1) (As := [.long (co)]) (ci := 4) F kmG_115 kiT_rowOf ksT_rowOf knT kcT_rowOf (by decide +kernel) dG_hasCode_14 (cT_rowOf l (nx) M (g + 18 + 7 * γ.1 k) (γ.2.2.2.1 k).1 (γ.2.2.2.1 k).2.1 (γ.2.2.2.1 k).2.2.1 (γ.2.2.2.1 k).2.2.2.1 (γ.2.2.2.1 k).2.2.2.2.1 (γ.2.2.2.1 k).2.2.2.2.2.1 (γ.2.2.2.1 k).2.2.2.2.2.2.1 (γ.2.2.2.1 k).2.2.2.2.2.2.2 (hTr k (by omega)) (co)) rfl (hTr k (by omega)).1 rfl rfl (Nat.le_of_ble_eq_true rfl) ⟨Nat.le_of_ble_eq_true rfl, Nat.le_of_ble_eq_true rfl⟩ ⟨Nat.le_of_ble_eq_true rfl, Nat.le_of_ble_eq_true rfl⟩ ?_
    rcases o_cases (tFind (γ.2.2.2.1 k) co) with hrw | ⟨j, hrw⟩
    · skip
      refine xW.ste (st' := [.int ((-1))]) (by show ([.int (oi (tFind (γ.2.2.2.1 k) (co)))] : List Value) = _; rw [hrw]; rfl) ?_
      refine x_iconst F (v := (-1)) dG_hasCode_17 (by decide) ?_
      refine x_icmp_eq F (tgt := 25) dG_hasCode_18 (by decide) (fun c2 => ?_) (fun c2 => ?_)
      · skip
        refine x_iconst F (v := nI (0)) dG_hasCode_25 (by decide) ?_
        exact x_zret F hr (by rfl) dG_hasCode_26 (x_f (by rw [gHas_n γ hk, hrw]; rfl))
      · skip
        exact absurd rfl c2
    · skip
      have hj := tFind_lt (hTr _ (by omega)) hrw
      refine xW.ste (st' := [.int (nI (j))]) (by show ([.int (oi (tFind (γ.2.2.2.1 k) (co)))] : List Value) = _; rw [hrw]; rfl) ?_
      refine x_iconst F (v := (-1)) dG_hasCode_17 (by decide) ?_
      refine x_icmp_eq F (tgt := 25) dG_hasCode_18 (by decide) (fun c3 => ?_) (fun c3 => ?_)
      · skip
        exact absurd c3 (nI_m1 (by omega))
      · skip
        refine x_iconst F (v := nI (1)) dG_hasCode_21 (by decide) ?_
        refine x_goto F (tgt := 26) dG_hasCode_22 (by decide) ?_
        exact x_zret F hr (by rfl) dG_hasCode_26 (x_t (by rw [gHas_n γ hk, hrw]; rfl))
set_option maxHeartbeats 4000000 in
set_option maxRecDepth 100000 in
theorem cG_editionF (l : Launch) (nx : Nat) (M : xH) (g : Nat) (γ : gS) (hG : gIs M g γ) (i : Int32) (hi : inE i = false ∨ i = nI γ.2.1) : xC l xcl yG_edition (xw (Cond.code yG_edition bG_edition 2 (some .boolean))) ({ frames := 1, cells := 0, slots := 0, locals := 20 } : Room) [.ref (g), .int (i)] nx M (x_is (some (.int (nI (0)))) nx M) := by
  obtain ⟨⟨fT, h0, h4, hfT, hpr, hπ, hπi⟩, hRd, hTr, hNo, hLi, hFi⟩ := id hG
  have hpp := hπ γ.2.1 (by omega)
  refine yC (by decide) (Nat.le_of_ble_eq_true rfl) ?_
  intro p e s m args below meth c D F hr hn
  refine x_iload_n F 1 dG_edition_0 rfl rfl ?_
  refine yS (n := 1) (As := [.int (i)]) F kmG_85 ktG_isEdition knG kcG_isEdition (by decide +kernel) dG_edition_1 (cG_isEd l (nx) M (i)) rfl rfl (Nat.le_of_ble_eq_true rfl) ⟨Nat.le_of_ble_eq_true rfl, Nat.le_of_ble_eq_true rfl⟩ ⟨Nat.le_of_ble_eq_true rfl, Nat.le_of_ble_eq_true rfl⟩ ?_
  refine x_if_eq F (tgt := 15) dG_edition_4 (by decide) (fun c1 => ?_) (fun c1 => ?_)
  · skip
    have c1 : (inE (i)) = false := bI_0 c1
    refine x_iconst F (v := nI (0)) dG_edition_15 (by decide) ?_
    exact x_zret F hr (by rfl) dG_edition_16 (x_is_i _ _ _)
  · skip
    have c1 : (inE (i)) = true := bI_1 c1
    refine x_iload_n F 1 dG_edition_7 rfl rfl ?_
    refine x_aload_n F 0 dG_edition_8 rfl rfl ?_
    refine x_get (ci := 5) F 6 (x_in inG) rfl (by decide) (x_m kfG_46) dG_edition_9 h0 rfl ?_
    refine x_icmp_ne F (tgt := 17) dG_edition_12 (by decide) (fun c2 => ?_) (fun c2 => ?_)
    · skip
      rcases hi with z | z
      · rw [c1] at z; cases z
      · exact absurd z c2
    · skip
      refine x_iconst F (v := nI (0)) dG_edition_15 (by decide) ?_
      exact x_zret F hr (by rfl) dG_edition_16 (x_is_i _ _ _)
set_option maxHeartbeats 4000000 in
set_option maxRecDepth 100000 in
theorem cG_editionT (l : Launch) (nx : Nat) (M : xH) (g : Nat) (γ : gS) (hG : gIs M g γ) (k : Nat) (hk : k < 3) (hne : k ≠ γ.2.1) : xC l xcl yG_edition (xw (Cond.code yG_edition bG_edition 2 (some .boolean))) ({ frames := 1, cells := 0, slots := 0, locals := 20 } : Room) [.ref (g), .int (nI (k))] nx M (gPost (some (.int (nI 1))) nx M g (gPr γ k)) := by
  obtain ⟨⟨fT, h0, h4, hfT, hpr, hπ, hπi⟩, hRd, hTr, hNo, hLi, hFi⟩ := id hG
  have hpp := hπ γ.2.1 (by omega)
  refine yC (by decide) (Nat.le_of_ble_eq_true rfl) ?_
  intro p e s m args below meth c D F hr hn
  refine x_iload_n F 1 dG_edition_0 rfl rfl ?_
  refine yS (n := 1) (As := [.int (nI (k))]) F kmG_85 ktG_isEdition knG kcG_isEdition (by decide +kernel) dG_edition_1 (cG_isEd l (nx) M (nI (k))) rfl rfl (Nat.le_of_ble_eq_true rfl) ⟨Nat.le_of_ble_eq_true rfl, Nat.le_of_ble_eq_true rfl⟩ ⟨Nat.le_of_ble_eq_true rfl, Nat.le_of_ble_eq_true rfl⟩ ?_
  refine x_if_eq F (tgt := 15) dG_edition_4 (by decide) (fun c1 => ?_) (fun c1 => ?_)
  · skip
    have c1 : (inE (nI (k))) = false := bI_0 c1
    rw [inE_k hk] at c1
    cases c1
  · skip
    have c1 : (inE (nI (k))) = true := bI_1 c1
    refine x_iload_n F 1 dG_edition_7 rfl rfl ?_
    refine x_aload_n F 0 dG_edition_8 rfl rfl ?_
    refine x_get (ci := 5) F 6 (x_in inG) rfl (by decide) (x_m kfG_46) dG_edition_9 h0 rfl ?_
    refine x_icmp_ne F (tgt := 17) dG_edition_12 (by decide) (fun c2 => ?_) (fun c2 => ?_)
    · skip
      have c2 : k ≠ γ.2.1 := by
        have z : ¬ (k = γ.2.1) := fun zz => c2 ((nI_eq (a := k) (b := γ.2.1) (by omega) (by omega)).mpr zz)
        omega
      refine x_aload_n F 0 dG_edition_17 rfl rfl ?_
      refine x_iload_n F 1 dG_edition_18 rfl rfl ?_
      refine x_put (ci := 5) (ty := .int) F 6 (x_in inG) tG tG_ok nG rfl (by decide) (x_m kfG_46) dG_edition_19 rfl (by decide +kernel) rfl rfl h0 (Nat.le_of_ble_eq_true rfl) ?_
      show xW p l e ({ frames := 1, cells := 0, slots := 0, locals := 20 } : Room) s m args below meth c D xcl (x_A M nx) 2 (MQ below (x_Q D xcl (x_A M nx) (gPost (some (.int (nI 1))) nx M g (gPr γ k))) args s 0 0 (x_A M nx)) 0 0 (nx) (x_up M (g) (.inr (5, [.ref (g + 1), .ref (g + 4), .ref (g + 5), .ref (g + 10), .ref (g + 15), .ref (g + 18 + 7 * γ.1 3), .int (nI (k))]))) 22 [(0, .ref (g)), (1, .int (nI (k)))] []
      refine x_iconst F (v := nI (1)) dG_edition_22 (by decide) ?_
      exact x_zret F hr (by rfl) dG_edition_23 (⟨rfl, rfl, ⟨⟨fT, x_up_s, (x_up_k h4 (by omega)), hfT, hk, hπ, hπi⟩, (rAt_fr hRd (fun b _ _ => x_up_n (by omega))), (fun i hi => tAt_fr (hTr i hi) (fun b hb hb2 =>  (x_up_n (by omega)).trans (rfl))), (pAt_fr hNo (fun b _ _ => x_up_n (by omega))), (pAt_fr hLi (fun b _ _ => x_up_n (by omega))), (fAt_fr hFi (fun b _ _ => x_up_n (by omega)))⟩, fun b hb => (x_up_n (by omega)).trans (rfl)⟩)
    · skip
      have c2 : k = γ.2.1 := by
        exact (nI_eq (a := k) (b := γ.2.1) (by omega) (by omega)).mp c2
      exact absurd c2 (by omega)
set_option maxHeartbeats 4000000 in
set_option maxRecDepth 100000 in
theorem cG_fail0 (l : Launch) (nx : Nat) (M : xH) (g : Nat) (γ : gS) (hG : gIs M g γ) : xC l xcl yG_failure (xw (Cond.code yG_failure bG_failure 2 (some .int))) ({ frames := 1, cells := 0, slots := 0, locals := 20 } : Room) [.ref (g), .int (nI (0))] nx M (x_is (some (.int ((γ.2.2.1).2.2.2.2.2.1))) nx M) := by
  obtain ⟨⟨fT, h0, h4, hfT, hpr, hπ, hπi⟩, hRd, hTr, hNo, hLi, hFi⟩ := id hG
  have hpp := hπ γ.2.1 (by omega)
  refine yC (by decide) (Nat.le_of_ble_eq_true rfl) ?_
  intro p e s m args below meth c D F hr hn
  refine x_iload_n F 1 dG_failure_0 rfl rfl ?_
  refine x_lookup F (tgt := 28) dG_failure_1 (by decide) (by rfl) (by decide) ?_
  refine x_aload_n F 0 dG_failure_28 rfl rfl ?_
  refine x_get (ci := 5) F 0 (x_in inG) rfl (by decide) (x_m kfG_10) dG_failure_29 h0 rfl ?_
  refine yV (n := 0) (As := []) (ci := 3) F kmG_79 kiR_failureKind ksR_failureKind knR kcR_failureKind (by decide +kernel) dG_failure_32 (cR_failureKind l (nx) M (g + 1) (γ.2.2.1).1 (γ.2.2.1).2.1 (γ.2.2.1).2.2.1 (γ.2.2.1).2.2.2.1 (γ.2.2.1).2.2.2.2.1 (γ.2.2.1).2.2.2.2.2.1 (γ.2.2.1).2.2.2.2.2.2 hRd ) rfl hRd.1 rfl rfl (Nat.le_of_ble_eq_true rfl) ⟨Nat.le_of_ble_eq_true rfl, Nat.le_of_ble_eq_true rfl⟩ ⟨Nat.le_of_ble_eq_true rfl, Nat.le_of_ble_eq_true rfl⟩ ?_
  exact x_iret F hr dG_failure_35 (x_is_i _ _ _)
set_option maxHeartbeats 4000000 in
set_option maxRecDepth 100000 in
theorem cG_fail1 (l : Launch) (nx : Nat) (M : xH) (g : Nat) (γ : gS) (hG : gIs M g γ) : xC l xcl yG_failure (xw (Cond.code yG_failure bG_failure 2 (some .int))) ({ frames := 1, cells := 0, slots := 0, locals := 20 } : Room) [.ref (g), .int (nI (1))] nx M (x_is (some (.int ((γ.2.2.1).2.2.2.2.2.2))) nx M) := by
  obtain ⟨⟨fT, h0, h4, hfT, hpr, hπ, hπi⟩, hRd, hTr, hNo, hLi, hFi⟩ := id hG
  have hpp := hπ γ.2.1 (by omega)
  refine yC (by decide) (Nat.le_of_ble_eq_true rfl) ?_
  intro p e s m args below meth c D F hr hn
  refine x_iload_n F 1 dG_failure_0 rfl rfl ?_
  refine x_lookup F (tgt := 36) dG_failure_1 (by decide) (by rfl) (by decide) ?_
  refine x_aload_n F 0 dG_failure_36 rfl rfl ?_
  refine x_get (ci := 5) F 0 (x_in inG) rfl (by decide) (x_m kfG_10) dG_failure_37 h0 rfl ?_
  refine yV (n := 0) (As := []) (ci := 3) F kmG_82 kiR_failurePlace ksR_failurePlace knR kcR_failurePlace (by decide +kernel) dG_failure_40 (cR_failurePlace l (nx) M (g + 1) (γ.2.2.1).1 (γ.2.2.1).2.1 (γ.2.2.1).2.2.1 (γ.2.2.1).2.2.2.1 (γ.2.2.1).2.2.2.2.1 (γ.2.2.1).2.2.2.2.2.1 (γ.2.2.1).2.2.2.2.2.2 hRd ) rfl hRd.1 rfl rfl (Nat.le_of_ble_eq_true rfl) ⟨Nat.le_of_ble_eq_true rfl, Nat.le_of_ble_eq_true rfl⟩ ⟨Nat.le_of_ble_eq_true rfl, Nat.le_of_ble_eq_true rfl⟩ ?_
  exact x_iret F hr dG_failure_43 (x_is_i _ _ _)
set_option maxHeartbeats 4000000 in
set_option maxRecDepth 100000 in
theorem cG_failN (l : Launch) (nx : Nat) (M : xH) (g : Nat) (γ : gS) (hG : gIs M g γ) (i : Int32) (hi0 : i ≠ nI 0) (hi1 : i ≠ nI 1) : xC l xcl yG_failure (xw (Cond.code yG_failure bG_failure 2 (some .int))) ({ frames := 0, cells := 0, slots := 0, locals := 0 } : Room) [.ref (g), .int (i)] nx M (x_is (some (.int ((-1)))) nx M) := by
  obtain ⟨⟨fT, h0, h4, hfT, hpr, hπ, hπi⟩, hRd, hTr, hNo, hLi, hFi⟩ := id hG
  have hpp := hπ γ.2.1 (by omega)
  refine yC (by decide) (Nat.le_of_ble_eq_true rfl) ?_
  intro p e s m args below meth c D F hr hn
  refine x_iload_n F 1 dG_failure_0 rfl rfl ?_
  refine x_lookup F (tgt := 44) dG_failure_1 (by decide) (by have h0 : ¬ (0 : Int) = i.toInt := fun z => hi0 (Int32.toInt_inj.mp (by rw [← z]; rfl)); have h1 : ¬ (1 : Int) = i.toInt := fun z => hi1 (Int32.toInt_inj.mp (by rw [← z]; rfl)); simp only [List.toList_toArray, Op.lookupswitch.offset_cons, Op.lookupswitch.offset_nil, if_neg h0, if_neg h1]; rfl) (by decide) ?_
  refine x_iconst F (v := (-1)) dG_failure_44 (by decide) ?_
  exact x_iret F hr dG_failure_45 (x_is_i _ _ _)
set_option maxHeartbeats 4000000 in
set_option maxRecDepth 100000 in
theorem cG_cnt10 (l : Launch) (nx : Nat) (M : xH) (g : Nat) (γ : gS) (hG : gIs M g γ) (i : Int32) (k : Nat) (hk : k < 3) (hi : i - nI 10 = nI k) : xC l xcl yG_countInEdition (xw (Cond.code yG_countInEdition bG_countInEdition 2 (some .int))) ({ frames := 1, cells := 0, slots := 0, locals := 22 } : Room) [.ref (g), .int (i)] nx M (x_is (some (.int (nI ((γ.2.2.2.1 k).2.2.2.2.2.2.1)))) nx M) := by
  obtain ⟨⟨fT, h0, h4, hfT, hpr, hπ, hπi⟩, hRd, hTr, hNo, hLi, hFi⟩ := id hG
  have hpp := hπ γ.2.1 (by omega)
  refine yC (by decide) (Nat.le_of_ble_eq_true rfl) ?_
  intro p e s m args below meth c D F hr hn
  refine x_iload_n F 1 dG_countInEdition_0 rfl rfl ?_
  refine x_bipush F (v := nI (10)) dG_countInEdition_1 (by decide) ?_
  refine x_isub F dG_countInEdition_3 ?_
  refine xW.toi (nI (k)) (hi) ?_
  refine yS (n := 1) (As := [.int (nI (k))]) F kmG_85 ktG_isEdition knG kcG_isEdition (by decide +kernel) dG_countInEdition_4 (cG_isEd l (nx) M (nI (k))) rfl rfl (Nat.le_of_ble_eq_true rfl) ⟨Nat.le_of_ble_eq_true rfl, Nat.le_of_ble_eq_true rfl⟩ ⟨Nat.le_of_ble_eq_true rfl, Nat.le_of_ble_eq_true rfl⟩ ?_
  refine x_if_eq F (tgt := 23) dG_countInEdition_7 (by decide) (fun c1 => ?_) (fun c1 => ?_)
  · skip
    have c1 : (inE (nI (k))) = false := bI_0 c1
    rw [inE_k hk] at c1
    cases c1
  · skip
    have c1 : (inE (nI (k))) = true := bI_1 c1
    refine x_aload_n F 0 dG_countInEdition_10 rfl rfl ?_
    refine x_get (ci := 5) F 1 (x_in inG) rfl (by decide) (x_m kfG_18) dG_countInEdition_11 h0 rfl ?_
    refine x_iload_n F 1 dG_countInEdition_14 rfl rfl ?_
    refine x_bipush F (v := nI (10)) dG_countInEdition_15 (by decide) ?_
    refine x_isub F dG_countInEdition_17 ?_
    refine xW.toi (nI (k)) (hi) ?_
    refine x_aald F dG_countInEdition_18 h4 (pk_in (k) (3) (by omega)) ?_
    rw [nI_clamp (show k < 2 ^ 31 by omega), hfT _ (by omega)]
    show xW p l e ({ frames := 1, cells := 0, slots := 0, locals := 22 } : Room) s m args below meth c D xcl (x_A M nx) 2 (MQ below (x_Q D xcl (x_A M nx) (x_is (some (.int (nI ((γ.2.2.2.1 k).2.2.2.2.2.2.1)))) nx M)) args s 0 0 (x_A M nx)) 0 0 (nx) M 19 [(0, .ref (g)), (1, .int (i))] [.ref (g + 18 + 7 * γ.1 k)]
    refine yV (n := 0) (As := []) (ci := 4) F kmG_75 kiT_size ksT_size knT kcT_size (by decide +kernel) dG_countInEdition_19 (cT_size l (nx) M (g + 18 + 7 * γ.1 k) (γ.2.2.2.1 k).1 (γ.2.2.2.1 k).2.1 (γ.2.2.2.1 k).2.2.1 (γ.2.2.2.1 k).2.2.2.1 (γ.2.2.2.1 k).2.2.2.2.1 (γ.2.2.2.1 k).2.2.2.2.2.1 (γ.2.2.2.1 k).2.2.2.2.2.2.1 (γ.2.2.2.1 k).2.2.2.2.2.2.2 (hTr k (by omega)) ) rfl (hTr k (by omega)).1 rfl rfl (Nat.le_of_ble_eq_true rfl) ⟨Nat.le_of_ble_eq_true rfl, Nat.le_of_ble_eq_true rfl⟩ ⟨Nat.le_of_ble_eq_true rfl, Nat.le_of_ble_eq_true rfl⟩ ?_
    exact x_iret F hr dG_countInEdition_22 (x_is_i _ _ _)
set_option maxHeartbeats 4000000 in
set_option maxRecDepth 100000 in
theorem cG_cnt20 (l : Launch) (nx : Nat) (M : xH) (g : Nat) (γ : gS) (hG : gIs M g γ) (i : Int32) (hz : inE (i - nI 10) = false) (k : Nat) (hk : k < 3) (hi : i - nI 20 = nI k) : xC l xcl yG_countInEdition (xw (Cond.code yG_countInEdition bG_countInEdition 2 (some .int))) ({ frames := 1, cells := 0, slots := 0, locals := 22 } : Room) [.ref (g), .int (i)] nx M (x_is (some (.int (nI ((γ.2.2.2.1 k).2.2.2.2.2.2.2)))) nx M) := by
  obtain ⟨⟨fT, h0, h4, hfT, hpr, hπ, hπi⟩, hRd, hTr, hNo, hLi, hFi⟩ := id hG
  have hpp := hπ γ.2.1 (by omega)
  refine yC (by decide) (Nat.le_of_ble_eq_true rfl) ?_
  intro p e s m args below meth c D F hr hn
  refine x_iload_n F 1 dG_countInEdition_0 rfl rfl ?_
  refine x_bipush F (v := nI (10)) dG_countInEdition_1 (by decide) ?_
  refine x_isub F dG_countInEdition_3 ?_
  refine xW.toi (i - nI 10) (rfl) ?_
  refine yS (n := 1) (As := [.int (i - nI 10)]) F kmG_85 ktG_isEdition knG kcG_isEdition (by decide +kernel) dG_countInEdition_4 (cG_isEd l (nx) M (i - nI 10)) rfl rfl (Nat.le_of_ble_eq_true rfl) ⟨Nat.le_of_ble_eq_true rfl, Nat.le_of_ble_eq_true rfl⟩ ⟨Nat.le_of_ble_eq_true rfl, Nat.le_of_ble_eq_true rfl⟩ ?_
  refine x_if_eq F (tgt := 23) dG_countInEdition_7 (by decide) (fun c1 => ?_) (fun c1 => ?_)
  · skip
    have c1 : (inE (i - nI 10)) = false := bI_0 c1
    refine x_iload_n F 1 dG_countInEdition_23 rfl rfl ?_
    refine x_bipush F (v := nI (20)) dG_countInEdition_24 (by decide) ?_
    refine x_isub F dG_countInEdition_26 ?_
    refine xW.toi (nI (k)) (hi) ?_
    refine yS (n := 1) (As := [.int (nI (k))]) F kmG_85 ktG_isEdition knG kcG_isEdition (by decide +kernel) dG_countInEdition_27 (cG_isEd l (nx) M (nI (k))) rfl rfl (Nat.le_of_ble_eq_true rfl) ⟨Nat.le_of_ble_eq_true rfl, Nat.le_of_ble_eq_true rfl⟩ ⟨Nat.le_of_ble_eq_true rfl, Nat.le_of_ble_eq_true rfl⟩ ?_
    refine x_if_eq F (tgt := 46) dG_countInEdition_30 (by decide) (fun c2 => ?_) (fun c2 => ?_)
    · skip
      have c2 : (inE (nI (k))) = false := bI_0 c2
      rw [inE_k hk] at c2
      cases c2
    · skip
      have c2 : (inE (nI (k))) = true := bI_1 c2
      refine x_aload_n F 0 dG_countInEdition_33 rfl rfl ?_
      refine x_get (ci := 5) F 1 (x_in inG) rfl (by decide) (x_m kfG_18) dG_countInEdition_34 h0 rfl ?_
      refine x_iload_n F 1 dG_countInEdition_37 rfl rfl ?_
      refine x_bipush F (v := nI (20)) dG_countInEdition_38 (by decide) ?_
      refine x_isub F dG_countInEdition_40 ?_
      refine xW.toi (nI (k)) (hi) ?_
      refine x_aald F dG_countInEdition_41 h4 (pk_in (k) (3) (by omega)) ?_
      rw [nI_clamp (show k < 2 ^ 31 by omega), hfT _ (by omega)]
      show xW p l e ({ frames := 1, cells := 0, slots := 0, locals := 22 } : Room) s m args below meth c D xcl (x_A M nx) 2 (MQ below (x_Q D xcl (x_A M nx) (x_is (some (.int (nI ((γ.2.2.2.1 k).2.2.2.2.2.2.2)))) nx M)) args s 0 0 (x_A M nx)) 0 0 (nx) M 42 [(0, .ref (g)), (1, .int (i))] [.ref (g + 18 + 7 * γ.1 k)]
      refine yV (n := 0) (As := []) (ci := 4) F kmG_201 kiT_chapters ksT_chapters knT kcT_chapters (by decide +kernel) dG_countInEdition_42 (cT_chapters l (nx) M (g + 18 + 7 * γ.1 k) (γ.2.2.2.1 k).1 (γ.2.2.2.1 k).2.1 (γ.2.2.2.1 k).2.2.1 (γ.2.2.2.1 k).2.2.2.1 (γ.2.2.2.1 k).2.2.2.2.1 (γ.2.2.2.1 k).2.2.2.2.2.1 (γ.2.2.2.1 k).2.2.2.2.2.2.1 (γ.2.2.2.1 k).2.2.2.2.2.2.2 (hTr k (by omega)) ) rfl (hTr k (by omega)).1 rfl rfl (Nat.le_of_ble_eq_true rfl) ⟨Nat.le_of_ble_eq_true rfl, Nat.le_of_ble_eq_true rfl⟩ ⟨Nat.le_of_ble_eq_true rfl, Nat.le_of_ble_eq_true rfl⟩ ?_
      exact x_iret F hr dG_countInEdition_45 (x_is_i _ _ _)
  · skip
    have c1 : (inE (i - nI 10)) = true := bI_1 c1
    rw [hz] at c1
    cases c1
set_option maxHeartbeats 4000000 in
set_option maxRecDepth 100000 in
theorem cG_cntN (l : Launch) (nx : Nat) (M : xH) (g : Nat) (γ : gS) (hG : gIs M g γ) (i : Int32) (hz : inE (i - nI 10) = false) (hz2 : inE (i - nI 20) = false) : xC l xcl yG_countInEdition (xw (Cond.code yG_countInEdition bG_countInEdition 2 (some .int))) ({ frames := 1, cells := 0, slots := 0, locals := 22 } : Room) [.ref (g), .int (i)] nx M (x_is (some (.int ((-1)))) nx M) := by
  obtain ⟨⟨fT, h0, h4, hfT, hpr, hπ, hπi⟩, hRd, hTr, hNo, hLi, hFi⟩ := id hG
  have hpp := hπ γ.2.1 (by omega)
  refine yC (by decide) (Nat.le_of_ble_eq_true rfl) ?_
  intro p e s m args below meth c D F hr hn
  refine x_iload_n F 1 dG_countInEdition_0 rfl rfl ?_
  refine x_bipush F (v := nI (10)) dG_countInEdition_1 (by decide) ?_
  refine x_isub F dG_countInEdition_3 ?_
  refine xW.toi (i - nI 10) (rfl) ?_
  refine yS (n := 1) (As := [.int (i - nI 10)]) F kmG_85 ktG_isEdition knG kcG_isEdition (by decide +kernel) dG_countInEdition_4 (cG_isEd l (nx) M (i - nI 10)) rfl rfl (Nat.le_of_ble_eq_true rfl) ⟨Nat.le_of_ble_eq_true rfl, Nat.le_of_ble_eq_true rfl⟩ ⟨Nat.le_of_ble_eq_true rfl, Nat.le_of_ble_eq_true rfl⟩ ?_
  refine x_if_eq F (tgt := 23) dG_countInEdition_7 (by decide) (fun c1 => ?_) (fun c1 => ?_)
  · skip
    have c1 : (inE (i - nI 10)) = false := bI_0 c1
    refine x_iload_n F 1 dG_countInEdition_23 rfl rfl ?_
    refine x_bipush F (v := nI (20)) dG_countInEdition_24 (by decide) ?_
    refine x_isub F dG_countInEdition_26 ?_
    refine xW.toi (i - nI 20) (rfl) ?_
    refine yS (n := 1) (As := [.int (i - nI 20)]) F kmG_85 ktG_isEdition knG kcG_isEdition (by decide +kernel) dG_countInEdition_27 (cG_isEd l (nx) M (i - nI 20)) rfl rfl (Nat.le_of_ble_eq_true rfl) ⟨Nat.le_of_ble_eq_true rfl, Nat.le_of_ble_eq_true rfl⟩ ⟨Nat.le_of_ble_eq_true rfl, Nat.le_of_ble_eq_true rfl⟩ ?_
    refine x_if_eq F (tgt := 46) dG_countInEdition_30 (by decide) (fun c2 => ?_) (fun c2 => ?_)
    · skip
      have c2 : (inE (i - nI 20)) = false := bI_0 c2
      refine x_iconst F (v := (-1)) dG_countInEdition_46 (by decide) ?_
      exact x_iret F hr dG_countInEdition_47 (x_is_i _ _ _)
    · skip
      have c2 : (inE (i - nI 20)) = true := bI_1 c2
      rw [hz2] at c2
      cases c2
  · skip
    have c1 : (inE (i - nI 10)) = true := bI_1 c1
    rw [hz] at c1
    cases c1
set_option maxHeartbeats 4000000 in
set_option maxRecDepth 100000 in
theorem cG_count0 (l : Launch) (nx : Nat) (M : xH) (g : Nat) (γ : gS) (hG : gIs M g γ) : xC l xcl yG_count (xw (Cond.code yG_count bG_count 2 (some .int))) ({ frames := 1, cells := 0, slots := 0, locals := 20 } : Room) [.ref (g), .int (nI (0))] nx M (x_is (some (.int (nI ((γ.2.2.1).2.2.2.1)))) nx M) := by
  obtain ⟨⟨fT, h0, h4, hfT, hpr, hπ, hπi⟩, hRd, hTr, hNo, hLi, hFi⟩ := id hG
  have hpp := hπ γ.2.1 (by omega)
  refine yC (by decide) (Nat.le_of_ble_eq_true rfl) ?_
  intro p e s m args below meth c D F hr hn
  refine x_iload_n F 1 dG_count_0 rfl rfl ?_
  refine x_tableIn F (tgt := 36) dG_count_1 (by decide) (by decide) (by rfl) (by decide) ?_
  refine x_aload_n F 0 dG_count_36 rfl rfl ?_
  refine x_get (ci := 5) F 0 (x_in inG) rfl (by decide) (x_m kfG_10) dG_count_37 h0 rfl ?_
  refine yV (n := 0) (As := []) (ci := 3) F kmG_195 kiR_length ksR_length knR kcR_length (by decide +kernel) dG_count_40 (cR_length l (nx) M (g + 1) (γ.2.2.1).1 (γ.2.2.1).2.1 (γ.2.2.1).2.2.1 (γ.2.2.1).2.2.2.1 (γ.2.2.1).2.2.2.2.1 (γ.2.2.1).2.2.2.2.2.1 (γ.2.2.1).2.2.2.2.2.2 hRd ) rfl hRd.1 rfl rfl (Nat.le_of_ble_eq_true rfl) ⟨Nat.le_of_ble_eq_true rfl, Nat.le_of_ble_eq_true rfl⟩ ⟨Nat.le_of_ble_eq_true rfl, Nat.le_of_ble_eq_true rfl⟩ ?_
  exact x_iret F hr dG_count_43 (x_is_i _ _ _)
set_option maxHeartbeats 4000000 in
set_option maxRecDepth 100000 in
theorem cG_count1 (l : Launch) (nx : Nat) (M : xH) (g : Nat) (γ : gS) (hG : gIs M g γ) : xC l xcl yG_count (xw (Cond.code yG_count bG_count 2 (some .int))) ({ frames := 0, cells := 0, slots := 0, locals := 0 } : Room) [.ref (g), .int (nI (1))] nx M (x_is (some (.int (nI (γ.2.1)))) nx M) := by
  obtain ⟨⟨fT, h0, h4, hfT, hpr, hπ, hπi⟩, hRd, hTr, hNo, hLi, hFi⟩ := id hG
  have hpp := hπ γ.2.1 (by omega)
  refine yC (by decide) (Nat.le_of_ble_eq_true rfl) ?_
  intro p e s m args below meth c D F hr hn
  refine x_iload_n F 1 dG_count_0 rfl rfl ?_
  refine x_tableIn F (tgt := 44) dG_count_1 (by decide) (by decide) (by rfl) (by decide) ?_
  refine x_aload_n F 0 dG_count_44 rfl rfl ?_
  refine x_get (ci := 5) F 6 (x_in inG) rfl (by decide) (x_m kfG_46) dG_count_45 h0 rfl ?_
  exact x_iret F hr dG_count_48 (x_is_i _ _ _)
set_option maxHeartbeats 4000000 in
set_option maxRecDepth 100000 in
theorem cG_count2 (l : Launch) (nx : Nat) (M : xH) (g : Nat) (γ : gS) (hG : gIs M g γ) : xC l xcl yG_count (xw (Cond.code yG_count bG_count 2 (some .int))) ({ frames := 1, cells := 0, slots := 0, locals := 20 } : Room) [.ref (g), .int (nI (2))] nx M (x_is (some (.int (nI ((γ.2.2.2.2.1).2.2.2.2)))) nx M) := by
  obtain ⟨⟨fT, h0, h4, hfT, hpr, hπ, hπi⟩, hRd, hTr, hNo, hLi, hFi⟩ := id hG
  have hpp := hπ γ.2.1 (by omega)
  refine yC (by decide) (Nat.le_of_ble_eq_true rfl) ?_
  intro p e s m args below meth c D F hr hn
  refine x_iload_n F 1 dG_count_0 rfl rfl ?_
  refine x_tableIn F (tgt := 49) dG_count_1 (by decide) (by decide) (by rfl) (by decide) ?_
  refine x_aload_n F 0 dG_count_49 rfl rfl ?_
  refine x_get (ci := 5) F 2 (x_in inG) rfl (by decide) (x_m kfG_27) dG_count_50 h0 rfl ?_
  refine yV (n := 0) (As := []) (ci := 2) F kmG_165 kiP_size ksP_size knP kcP_size (by decide +kernel) dG_count_53 (cP_size l (nx) M (g + 5) 20 (γ.2.2.2.2.1).1 (γ.2.2.2.2.1).2.1 (γ.2.2.2.2.1).2.2.1 (γ.2.2.2.2.1).2.2.2.1 (γ.2.2.2.2.1).2.2.2.2 hNo ) rfl hNo.1 rfl rfl (Nat.le_of_ble_eq_true rfl) ⟨Nat.le_of_ble_eq_true rfl, Nat.le_of_ble_eq_true rfl⟩ ⟨Nat.le_of_ble_eq_true rfl, Nat.le_of_ble_eq_true rfl⟩ ?_
  exact x_iret F hr dG_count_56 (x_is_i _ _ _)
set_option maxHeartbeats 4000000 in
set_option maxRecDepth 100000 in
theorem cG_count3 (l : Launch) (nx : Nat) (M : xH) (g : Nat) (γ : gS) (hG : gIs M g γ) : xC l xcl yG_count (xw (Cond.code yG_count bG_count 2 (some .int))) ({ frames := 1, cells := 0, slots := 0, locals := 20 } : Room) [.ref (g), .int (nI (3))] nx M (x_is (some (.int (nI ((γ.2.2.2.2.2.1).2.2.2.2)))) nx M) := by
  obtain ⟨⟨fT, h0, h4, hfT, hpr, hπ, hπi⟩, hRd, hTr, hNo, hLi, hFi⟩ := id hG
  have hpp := hπ γ.2.1 (by omega)
  refine yC (by decide) (Nat.le_of_ble_eq_true rfl) ?_
  intro p e s m args below meth c D F hr hn
  refine x_iload_n F 1 dG_count_0 rfl rfl ?_
  refine x_tableIn F (tgt := 57) dG_count_1 (by decide) (by decide) (by rfl) (by decide) ?_
  refine x_aload_n F 0 dG_count_57 rfl rfl ?_
  refine x_get (ci := 5) F 3 (x_in inG) rfl (by decide) (x_m kfG_31) dG_count_58 h0 rfl ?_
  refine yV (n := 0) (As := []) (ci := 2) F kmG_165 kiP_size ksP_size knP kcP_size (by decide +kernel) dG_count_61 (cP_size l (nx) M (g + 10) 60 (γ.2.2.2.2.2.1).1 (γ.2.2.2.2.2.1).2.1 (γ.2.2.2.2.2.1).2.2.1 (γ.2.2.2.2.2.1).2.2.2.1 (γ.2.2.2.2.2.1).2.2.2.2 hLi ) rfl hLi.1 rfl rfl (Nat.le_of_ble_eq_true rfl) ⟨Nat.le_of_ble_eq_true rfl, Nat.le_of_ble_eq_true rfl⟩ ⟨Nat.le_of_ble_eq_true rfl, Nat.le_of_ble_eq_true rfl⟩ ?_
  exact x_iret F hr dG_count_64 (x_is_i _ _ _)
set_option maxHeartbeats 4000000 in
set_option maxRecDepth 100000 in
theorem cG_count4 (l : Launch) (nx : Nat) (M : xH) (g : Nat) (γ : gS) (hG : gIs M g γ) : xC l xcl yG_count (xw (Cond.code yG_count bG_count 2 (some .int))) ({ frames := 1, cells := 0, slots := 0, locals := 20 } : Room) [.ref (g), .int (nI (4))] nx M (x_is (some (.int (nI ((γ.2.2.2.2.2.2).2.2)))) nx M) := by
  obtain ⟨⟨fT, h0, h4, hfT, hpr, hπ, hπi⟩, hRd, hTr, hNo, hLi, hFi⟩ := id hG
  have hpp := hπ γ.2.1 (by omega)
  refine yC (by decide) (Nat.le_of_ble_eq_true rfl) ?_
  intro p e s m args below meth c D F hr hn
  refine x_iload_n F 1 dG_count_0 rfl rfl ?_
  refine x_tableIn F (tgt := 65) dG_count_1 (by decide) (by decide) (by rfl) (by decide) ?_
  refine x_aload_n F 0 dG_count_65 rfl rfl ?_
  refine x_get (ci := 5) F 4 (x_in inG) rfl (by decide) (x_m kfG_37) dG_count_66 h0 rfl ?_
  refine yV (n := 0) (As := []) (ci := 1) F kmG_187 kiF_size ksF_size knF kcF_size (by decide +kernel) dG_count_69 (cF_size l (nx) M (g + 15) (γ.2.2.2.2.2.2).1 (γ.2.2.2.2.2.2).2.1 (γ.2.2.2.2.2.2).2.2 hFi ) rfl hFi.1 rfl rfl (Nat.le_of_ble_eq_true rfl) ⟨Nat.le_of_ble_eq_true rfl, Nat.le_of_ble_eq_true rfl⟩ ⟨Nat.le_of_ble_eq_true rfl, Nat.le_of_ble_eq_true rfl⟩ ?_
  exact x_iret F hr dG_count_72 (x_is_i _ _ _)
set_option maxHeartbeats 4000000 in
set_option maxRecDepth 100000 in
theorem cG_count10 (l : Launch) (nx : Nat) (M : xH) (g : Nat) (γ : gS) (hG : gIs M g γ) (i : Int32) (h5 : ¬ vp_in i 5) (k : Nat) (hk : k < 3) (hi : i - nI 10 = nI k) : xC l xcl yG_count (xw (Cond.code yG_count bG_count 2 (some .int))) ({ frames := 2, cells := 0, slots := 0, locals := 43 } : Room) [.ref (g), .int (i)] nx M (x_is (some (.int (nI ((γ.2.2.2.1 k).2.2.2.2.2.2.1)))) nx M) := by
  obtain ⟨⟨fT, h0, h4, hfT, hpr, hπ, hπi⟩, hRd, hTr, hNo, hLi, hFi⟩ := id hG
  have hpp := hπ γ.2.1 (by omega)
  refine yC (by decide) (Nat.le_of_ble_eq_true rfl) ?_
  intro p e s m args below meth c D F hr hn
  refine x_iload_n F 1 dG_count_0 rfl rfl ?_
  refine x_tableOut F (tgt := 73) dG_count_1 (toInt_in (n := 5) (by decide) h5 rfl rfl) (by decide) ?_
  refine x_aload_n F 0 dG_count_73 rfl rfl ?_
  refine x_iload_n F 1 dG_count_74 rfl rfl ?_
  refine yV (n := 1) (As := [.int (i)]) (ci := 5) F kmG_198 kiG_countInEdition ksG_countInEdition knG kcG_countInEdition (by decide +kernel) dG_count_75 (cG_cnt10 l (nx) M g γ hG i k hk hi) rfl h0 rfl rfl (Nat.le_of_ble_eq_true rfl) ⟨Nat.le_of_ble_eq_true rfl, Nat.le_of_ble_eq_true rfl⟩ ⟨Nat.le_of_ble_eq_true rfl, Nat.le_of_ble_eq_true rfl⟩ ?_
  exact x_iret F hr dG_count_78 (x_is_i _ _ _)
set_option maxHeartbeats 4000000 in
set_option maxRecDepth 100000 in
theorem cG_count20 (l : Launch) (nx : Nat) (M : xH) (g : Nat) (γ : gS) (hG : gIs M g γ) (i : Int32) (h5 : ¬ vp_in i 5) (hz : inE (i - nI 10) = false) (k : Nat) (hk : k < 3) (hi : i - nI 20 = nI k) : xC l xcl yG_count (xw (Cond.code yG_count bG_count 2 (some .int))) ({ frames := 2, cells := 0, slots := 0, locals := 43 } : Room) [.ref (g), .int (i)] nx M (x_is (some (.int (nI ((γ.2.2.2.1 k).2.2.2.2.2.2.2)))) nx M) := by
  obtain ⟨⟨fT, h0, h4, hfT, hpr, hπ, hπi⟩, hRd, hTr, hNo, hLi, hFi⟩ := id hG
  have hpp := hπ γ.2.1 (by omega)
  refine yC (by decide) (Nat.le_of_ble_eq_true rfl) ?_
  intro p e s m args below meth c D F hr hn
  refine x_iload_n F 1 dG_count_0 rfl rfl ?_
  refine x_tableOut F (tgt := 73) dG_count_1 (toInt_in (n := 5) (by decide) h5 rfl rfl) (by decide) ?_
  refine x_aload_n F 0 dG_count_73 rfl rfl ?_
  refine x_iload_n F 1 dG_count_74 rfl rfl ?_
  refine yV (n := 1) (As := [.int (i)]) (ci := 5) F kmG_198 kiG_countInEdition ksG_countInEdition knG kcG_countInEdition (by decide +kernel) dG_count_75 (cG_cnt20 l (nx) M g γ hG i hz k hk hi) rfl h0 rfl rfl (Nat.le_of_ble_eq_true rfl) ⟨Nat.le_of_ble_eq_true rfl, Nat.le_of_ble_eq_true rfl⟩ ⟨Nat.le_of_ble_eq_true rfl, Nat.le_of_ble_eq_true rfl⟩ ?_
  exact x_iret F hr dG_count_78 (x_is_i _ _ _)
set_option maxHeartbeats 4000000 in
set_option maxRecDepth 100000 in
theorem cG_countN (l : Launch) (nx : Nat) (M : xH) (g : Nat) (γ : gS) (hG : gIs M g γ) (i : Int32) (h5 : ¬ vp_in i 5) (hz : inE (i - nI 10) = false) (hz2 : inE (i - nI 20) = false) : xC l xcl yG_count (xw (Cond.code yG_count bG_count 2 (some .int))) ({ frames := 2, cells := 0, slots := 0, locals := 43 } : Room) [.ref (g), .int (i)] nx M (x_is (some (.int ((-1)))) nx M) := by
  obtain ⟨⟨fT, h0, h4, hfT, hpr, hπ, hπi⟩, hRd, hTr, hNo, hLi, hFi⟩ := id hG
  have hpp := hπ γ.2.1 (by omega)
  refine yC (by decide) (Nat.le_of_ble_eq_true rfl) ?_
  intro p e s m args below meth c D F hr hn
  refine x_iload_n F 1 dG_count_0 rfl rfl ?_
  refine x_tableOut F (tgt := 73) dG_count_1 (toInt_in (n := 5) (by decide) h5 rfl rfl) (by decide) ?_
  refine x_aload_n F 0 dG_count_73 rfl rfl ?_
  refine x_iload_n F 1 dG_count_74 rfl rfl ?_
  refine yV (n := 1) (As := [.int (i)]) (ci := 5) F kmG_198 kiG_countInEdition ksG_countInEdition knG kcG_countInEdition (by decide +kernel) dG_count_75 (cG_cntN l (nx) M g γ hG i hz hz2) rfl h0 rfl rfl (Nat.le_of_ble_eq_true rfl) ⟨Nat.le_of_ble_eq_true rfl, Nat.le_of_ble_eq_true rfl⟩ ⟨Nat.le_of_ble_eq_true rfl, Nat.le_of_ble_eq_true rfl⟩ ?_
  exact x_iret F hr dG_count_78 (x_is_i _ _ _)
set_option maxHeartbeats 4000000 in
set_option maxRecDepth 100000 in
theorem cG_link (l : Launch) (nx : Nat) (M : xH) (g : Nat) (γ : gS) (hG : gIs M g γ) (aa : Int32) (co : Int64) (bb : Int32) (oo : Int64) : xC l xcl yG_link (xw (Cond.code yG_link bG_link 7 (some .boolean))) ({ frames := 3, cells := 0, slots := 0, locals := 73 } : Room) [.ref (g), .int (aa), .long (co), .int (bb), .long (oo)] nx M (gPost (some (.int (bI (lkOk γ aa co bb oo)))) nx M g (if lkOk γ aa co bb oo then gLk γ (padd γ.2.2.2.2.2.1 aa co bb oo) else γ)) := by
  obtain ⟨⟨fT, h0, h4, hfT, hpr, hπ, hπi⟩, hRd, hTr, hNo, hLi, hFi⟩ := id hG
  have hpp := hπ γ.2.1 (by omega)
  refine yC (by decide) (Nat.le_of_ble_eq_true rfl) ?_
  intro p e s m args below meth c D F hr hn
  refine x_iload_n F 1 dG_link_0 rfl rfl ?_
  refine x_iload F 3 dG_link_1 rfl ?_
  refine x_icmp_eq F (tgt := 26) dG_link_3 (by decide) (fun c1 => ?_) (fun c1 => ?_)
  · skip
    refine x_iconst F (v := nI (0)) dG_link_26 (by decide) ?_
    exact x_zret F hr (by rfl) dG_link_27 (by rw [show lkOk γ aa co bb oo = false from by simp [lkOk, c1]]; exact ⟨rfl, rfl, hG, fun _ _ => rfl⟩)
  · skip
    refine x_aload_n F 0 dG_link_6 rfl rfl ?_
    refine x_iload_n F 1 dG_link_7 rfl rfl ?_
    refine x_lload_n F 2 dG_link_8 rfl rfl ?_
    refine yV (n := 2) (As := [.int (aa), .long (co)]) (ci := 5) F kmG_119 kiG_hasCode ksG_hasCode knG kcG_hasCode (by decide +kernel) dG_link_9 (cG_hasC l (nx) M g γ hG (aa) (co)) rfl h0 rfl rfl (Nat.le_of_ble_eq_true rfl) ⟨Nat.le_of_ble_eq_true rfl, Nat.le_of_ble_eq_true rfl⟩ ⟨Nat.le_of_ble_eq_true rfl, Nat.le_of_ble_eq_true rfl⟩ ?_
    refine x_if_eq F (tgt := 26) dG_link_12 (by decide) (fun c2 => ?_) (fun c2 => ?_)
    · skip
      have c2 : (gHas γ (aa) (co)) = false := bI_0 c2
      refine x_iconst F (v := nI (0)) dG_link_26 (by decide) ?_
      exact x_zret F hr (by rfl) dG_link_27 (by rw [show lkOk γ aa co bb oo = false from by simp [lkOk, c1, c2]]; exact ⟨rfl, rfl, hG, fun _ _ => rfl⟩)
    · skip
      have c2 : (gHas γ (aa) (co)) = true := bI_1 c2
      refine x_aload_n F 0 dG_link_15 rfl rfl ?_
      refine x_iload F 3 dG_link_16 rfl ?_
      refine x_lload F 4 dG_link_18 rfl ?_
      refine yV (n := 2) (As := [.int (bb), .long (oo)]) (ci := 5) F kmG_119 kiG_hasCode ksG_hasCode knG kcG_hasCode (by decide +kernel) dG_link_20 (cG_hasC l (nx) M g γ hG (bb) (oo)) rfl h0 rfl rfl (Nat.le_of_ble_eq_true rfl) ⟨Nat.le_of_ble_eq_true rfl, Nat.le_of_ble_eq_true rfl⟩ ⟨Nat.le_of_ble_eq_true rfl, Nat.le_of_ble_eq_true rfl⟩ ?_
      refine x_if_ne F (tgt := 28) dG_link_23 (by decide) (fun c3 => ?_) (fun c3 => ?_)
      · skip
        have c3 : (gHas γ (bb) (oo)) = true := bI_1 c3
        refine x_aload_n F 0 dG_link_28 rfl rfl ?_
        refine x_get (ci := 5) F 3 (x_in inG) rfl (by decide) (x_m kfG_31) dG_link_29 h0 rfl ?_
        refine yV (n := 0) (As := []) (ci := 2) F kmG_128 kiP_isFull ksP_isFull knP kcP_isFull (by decide +kernel) dG_link_32 (cP_isFull l (nx) M (g + 10) 60 (γ.2.2.2.2.2.1).1 (γ.2.2.2.2.2.1).2.1 (γ.2.2.2.2.2.1).2.2.1 (γ.2.2.2.2.2.1).2.2.2.1 (γ.2.2.2.2.2.1).2.2.2.2 hLi ) rfl hLi.1 rfl rfl (Nat.le_of_ble_eq_true rfl) ⟨Nat.le_of_ble_eq_true rfl, Nat.le_of_ble_eq_true rfl⟩ ⟨Nat.le_of_ble_eq_true rfl, Nat.le_of_ble_eq_true rfl⟩ ?_
        refine x_if_ne F (tgt := 54) dG_link_35 (by decide) (fun c4 => ?_) (fun c4 => ?_)
        · skip
          have c4 : (decide (60 ≤ (γ.2.2.2.2.2.1).2.2.2.2)) = true := bI_1 c4
          refine x_iconst F (v := nI (0)) dG_link_54 (by decide) ?_
          exact x_zret F hr (by rfl) dG_link_55 (by rw [show lkOk γ aa co bb oo = false from by simp [lkOk, c1, c2, c3, c4]]; exact ⟨rfl, rfl, hG, fun _ _ => rfl⟩)
        · skip
          have c4 : (decide (60 ≤ (γ.2.2.2.2.2.1).2.2.2.2)) = false := bI_0 c4
          refine x_aload_n F 0 dG_link_38 rfl rfl ?_
          refine x_get (ci := 5) F 3 (x_in inG) rfl (by decide) (x_m kfG_31) dG_link_39 h0 rfl ?_
          refine x_iload_n F 1 dG_link_42 rfl rfl ?_
          refine x_lload_n F 2 dG_link_43 rfl rfl ?_
          refine x_iload F 3 dG_link_44 rfl ?_
          refine x_lload F 4 dG_link_46 rfl ?_
          refine yV (n := 4) (As := [.int (aa), .long (co), .int (bb), .long (oo)]) (ci := 2) F kmG_132 kiP_holds ksP_holds knP kcP_holds (by decide +kernel) dG_link_48 (cP_holds l (nx) M (g + 10) 60 (γ.2.2.2.2.2.1).1 (γ.2.2.2.2.2.1).2.1 (γ.2.2.2.2.2.1).2.2.1 (γ.2.2.2.2.2.1).2.2.2.1 (γ.2.2.2.2.2.1).2.2.2.2 hLi (aa) (co) (bb) (oo)) rfl hLi.1 rfl rfl (Nat.le_of_ble_eq_true rfl) ⟨Nat.le_of_ble_eq_true rfl, Nat.le_of_ble_eq_true rfl⟩ ⟨Nat.le_of_ble_eq_true rfl, Nat.le_of_ble_eq_true rfl⟩ ?_
          refine x_if_eq F (tgt := 56) dG_link_51 (by decide) (fun c5 => ?_) (fun c5 => ?_)
          · skip
            have c5 : (pHas (γ.2.2.2.2.2.1) (aa) (co) (bb) (oo)) = false := bI_0 c5
            refine x_aload_n F 0 dG_link_56 rfl rfl ?_
            refine x_get (ci := 5) F 3 (x_in inG) rfl (by decide) (x_m kfG_31) dG_link_57 h0 rfl ?_
            refine x_iload_n F 1 dG_link_60 rfl rfl ?_
            refine x_lload_n F 2 dG_link_61 rfl rfl ?_
            refine x_iload F 3 dG_link_62 rfl ?_
            refine x_lload F 4 dG_link_64 rfl ?_
            have hroom : γ.2.2.2.2.2.1.2.2.2.2 < 60 := by have z := c4; simp at z; exact z
            refine yVr (n := 4) (As := [.int (aa), .long (co), .int (bb), .long (oo)]) (ci := 2) F kmG_138 kiP_add ksP_add knP kcP_add (by decide +kernel) dG_link_66 (cP_add l (nx) M (g + 10) 60 (γ.2.2.2.2.2.1) hLi hroom (aa) (co) (bb) (oo)) rfl hLi.1 rfl rfl (Nat.le_of_ble_eq_true rfl) ⟨Nat.le_of_ble_eq_true rfl, Nat.le_of_ble_eq_true rfl⟩ ⟨Nat.le_of_ble_eq_true rfl, Nat.le_of_ble_eq_true rfl⟩ (fun r' n' M302 hp => ?_)
            obtain ⟨hr', hn', hP302, hf302⟩ := hp
            rw [hn', hr']
            show xW p l e ({ frames := 3, cells := 0, slots := 0, locals := 73 } : Room) s m args below meth c D xcl (x_A M nx) 7 (MQ below (x_Q D xcl (x_A M nx) (gPost (some (.int (bI (lkOk γ aa co bb oo)))) nx M g (if lkOk γ aa co bb oo then gLk γ (padd γ.2.2.2.2.2.1 aa co bb oo) else γ))) args s 0 0 (x_A M nx)) 0 0 (nx) M302 69 [(0, .ref (g)), (1, .int (aa)), (2, .long (co)), (4, .int (bb)), (5, .long (oo))] []
            refine x_iconst F (v := nI (1)) dG_link_69 (by decide) ?_
            exact x_zret F hr (by rfl) dG_link_70 (by rw [show lkOk γ aa co bb oo = true from by simp [lkOk, c1, c2, c3, c4, c5]]; exact ⟨rfl, rfl, ⟨⟨fT, ((hf302 _ (by omega)).trans h0), ((hf302 _ (by omega)).trans h4), hfT, hpr, hπ, hπi⟩, (rAt_fr hRd (fun b _ _ => hf302 b (by omega))), (fun i hi => tAt_fr (hTr i hi) (fun b hb hb2 =>  (hf302 _ (by omega)).trans (rfl))), (pAt_fr hNo (fun b _ _ => hf302 b (by omega))), hP302, (fAt_fr hFi (fun b _ _ => hf302 b (by omega)))⟩, fun b hb => (hf302 _ (by omega)).trans (rfl)⟩)
          · skip
            have c5 : (pHas (γ.2.2.2.2.2.1) (aa) (co) (bb) (oo)) = true := bI_1 c5
            refine x_iconst F (v := nI (0)) dG_link_54 (by decide) ?_
            exact x_zret F hr (by rfl) dG_link_55 (by rw [show lkOk γ aa co bb oo = false from by simp [lkOk, c1, c2, c3, c4, c5]]; exact ⟨rfl, rfl, hG, fun _ _ => rfl⟩)
      · skip
        have c3 : (gHas γ (bb) (oo)) = false := bI_0 c3
        refine x_iconst F (v := nI (0)) dG_link_26 (by decide) ?_
        exact x_zret F hr (by rfl) dG_link_27 (by rw [show lkOk γ aa co bb oo = false from by simp [lkOk, c1, c2, c3]]; exact ⟨rfl, rfl, hG, fun _ _ => rfl⟩)
set_option maxHeartbeats 4000000 in
set_option maxRecDepth 100000 in
theorem cG_checkE (l : Launch) (nx : Nat) (M : xH) (aa bb : Int32) (hok : edOk aa bb = true) : xC l xcl yG_checkEditions (xw (Cond.code yG_checkEditions bG_checkEditions 2 none)) ({ frames := 1, cells := 0, slots := 0, locals := 20 } : Room) [.int (aa), .int (bb)] nx M (x_is none nx M) := by
  refine yC (by decide) (Nat.le_of_ble_eq_true rfl) ?_
  intro p e s m args below meth c D F hr hn
  refine x_iload_n F 0 dG_checkEditions_0 rfl rfl ?_
  refine yS (n := 1) (As := [.int (aa)]) F kmG_85 ktG_isEdition knG kcG_isEdition (by decide +kernel) dG_checkEditions_1 (cG_isEd l (nx) M (aa)) rfl rfl (Nat.le_of_ble_eq_true rfl) ⟨Nat.le_of_ble_eq_true rfl, Nat.le_of_ble_eq_true rfl⟩ ⟨Nat.le_of_ble_eq_true rfl, Nat.le_of_ble_eq_true rfl⟩ ?_
  refine x_if_eq F (tgt := 19) dG_checkEditions_4 (by decide) (fun c1 => ?_) (fun c1 => ?_)
  · skip
    have c1 : (inE (aa)) = false := bI_0 c1
    simp [edOk, c1] at hok
  · skip
    have c1 : (inE (aa)) = true := bI_1 c1
    refine x_iload_n F 1 dG_checkEditions_7 rfl rfl ?_
    refine yS (n := 1) (As := [.int (bb)]) F kmG_85 ktG_isEdition knG kcG_isEdition (by decide +kernel) dG_checkEditions_8 (cG_isEd l (nx) M (bb)) rfl rfl (Nat.le_of_ble_eq_true rfl) ⟨Nat.le_of_ble_eq_true rfl, Nat.le_of_ble_eq_true rfl⟩ ⟨Nat.le_of_ble_eq_true rfl, Nat.le_of_ble_eq_true rfl⟩ ?_
    refine x_if_eq F (tgt := 19) dG_checkEditions_11 (by decide) (fun c2 => ?_) (fun c2 => ?_)
    · skip
      have c2 : (inE (bb)) = false := bI_0 c2
      simp [edOk, c2] at hok
    · skip
      have c2 : (inE (bb)) = true := bI_1 c2
      refine x_iload_n F 0 dG_checkEditions_14 rfl rfl ?_
      refine x_iload_n F 1 dG_checkEditions_15 rfl rfl ?_
      refine x_icmp_ne F (tgt := 29) dG_checkEditions_16 (by decide) (fun c3 => ?_) (fun c3 => ?_)
      · skip
        exact x_vret F hr dG_checkEditions_29 (x_is_i _ _ _)
      · skip
        simp [edOk, c3] at hok
set_option maxHeartbeats 4000000 in
set_option maxRecDepth 100000 in
theorem cG_checkET (l : Launch) (hfl : x_fl l) (nx : Nat) (M : xH) (aa bb : Int32) (hok : edOk aa bb = false) : xT_ l xcl yG_checkEditions (xw (Cond.code yG_checkEditions bG_checkEditions 2 none)) ({ frames := 6, cells := 1, slots := 6, locals := 90 } : Room) [.int (aa), .int (bb)] nx M "java/lang/IllegalArgumentException" (kPost nx M) := by
  refine yCT (by decide) (Nat.le_of_ble_eq_true rfl) ?_
  intro p e s m args below meth c D F hr hex
  refine x_iload_n F 0 dG_checkEditions_0 rfl rfl ?_
  refine yS (n := 1) (As := [.int (aa)]) F kmG_85 ktG_isEdition knG kcG_isEdition (by decide +kernel) dG_checkEditions_1 (cG_isEd l (nx) M (aa)) rfl rfl (Nat.le_of_ble_eq_true rfl) ⟨Nat.le_of_ble_eq_true rfl, Nat.le_of_ble_eq_true rfl⟩ ⟨Nat.le_of_ble_eq_true rfl, Nat.le_of_ble_eq_true rfl⟩ ?_
  refine x_if_eq F (tgt := 19) dG_checkEditions_4 (by decide) (fun c1 => ?_) (fun c1 => ?_)
  · skip
    have c1 : (inE (aa)) = false := bI_0 c1
    exact yT (tx := "no two editions") F hfl hex x_ok3 klG_123 kqJA knJA kcG_checkEditions (by decide) (by decide) dG_checkEditions_19 dG_checkEditions_22 dG_checkEditions_23 dG_checkEditions_25 dG_checkEditions_28 (Nat.le_of_ble_eq_true rfl) (Nat.le_of_ble_eq_true rfl) (Nat.le_of_ble_eq_true rfl) (Nat.le_of_ble_eq_true rfl) (Nat.le_of_ble_eq_true rfl) (Nat.le_of_ble_eq_true rfl) (fun n' hn' => ⟨hn', rfl⟩)
  · skip
    have c1 : (inE (aa)) = true := bI_1 c1
    refine x_iload_n F 1 dG_checkEditions_7 rfl rfl ?_
    refine yS (n := 1) (As := [.int (bb)]) F kmG_85 ktG_isEdition knG kcG_isEdition (by decide +kernel) dG_checkEditions_8 (cG_isEd l (nx) M (bb)) rfl rfl (Nat.le_of_ble_eq_true rfl) ⟨Nat.le_of_ble_eq_true rfl, Nat.le_of_ble_eq_true rfl⟩ ⟨Nat.le_of_ble_eq_true rfl, Nat.le_of_ble_eq_true rfl⟩ ?_
    refine x_if_eq F (tgt := 19) dG_checkEditions_11 (by decide) (fun c2 => ?_) (fun c2 => ?_)
    · skip
      have c2 : (inE (bb)) = false := bI_0 c2
      exact yT (tx := "no two editions") F hfl hex x_ok3 klG_123 kqJA knJA kcG_checkEditions (by decide) (by decide) dG_checkEditions_19 dG_checkEditions_22 dG_checkEditions_23 dG_checkEditions_25 dG_checkEditions_28 (Nat.le_of_ble_eq_true rfl) (Nat.le_of_ble_eq_true rfl) (Nat.le_of_ble_eq_true rfl) (Nat.le_of_ble_eq_true rfl) (Nat.le_of_ble_eq_true rfl) (Nat.le_of_ble_eq_true rfl) (fun n' hn' => ⟨hn', rfl⟩)
    · skip
      have c2 : (inE (bb)) = true := bI_1 c2
      refine x_iload_n F 0 dG_checkEditions_14 rfl rfl ?_
      refine x_iload_n F 1 dG_checkEditions_15 rfl rfl ?_
      refine x_icmp_ne F (tgt := 29) dG_checkEditions_16 (by decide) (fun c3 => ?_) (fun c3 => ?_)
      · skip
        simp [edOk, c1, c2, c3] at hok
      · skip
        exact yT (tx := "no two editions") F hfl hex x_ok3 klG_123 kqJA knJA kcG_checkEditions (by decide) (by decide) dG_checkEditions_19 dG_checkEditions_22 dG_checkEditions_23 dG_checkEditions_25 dG_checkEditions_28 (Nat.le_of_ble_eq_true rfl) (Nat.le_of_ble_eq_true rfl) (Nat.le_of_ble_eq_true rfl) (Nat.le_of_ble_eq_true rfl) (Nat.le_of_ble_eq_true rfl) (Nat.le_of_ble_eq_true rfl) (fun n' hn' => ⟨hn', rfl⟩)
set_option maxHeartbeats 4000000 in
set_option maxRecDepth 100000 in
theorem cG_checkC (l : Launch) (nx : Nat) (M : xH) (g : Nat) (γ : gS) (hG : gIs M g γ) (e0 : Int32) (co : Int64) (hok : gHas γ e0 co = true) : xC l xcl yG_checkCode (xw (Cond.code yG_checkCode bG_checkCode 4 none)) ({ frames := 2, cells := 0, slots := 0, locals := 46 } : Room) [.ref (g), .int (e0), .long (co)] nx M (x_is none nx M) := by
  obtain ⟨⟨fT, h0, h4, hfT, hpr, hπ, hπi⟩, hRd, hTr, hNo, hLi, hFi⟩ := id hG
  have hpp := hπ γ.2.1 (by omega)
  refine yC (by decide) (Nat.le_of_ble_eq_true rfl) ?_
  intro p e s m args below meth c D F hr hn
  refine x_aload_n F 0 dG_checkCode_0 rfl rfl ?_
  refine x_iload_n F 1 dG_checkCode_1 rfl rfl ?_
  refine x_lload_n F 2 dG_checkCode_2 rfl rfl ?_
  refine yV (n := 2) (As := [.int (e0), .long (co)]) (ci := 5) F kmG_119 kiG_hasCode ksG_hasCode knG kcG_hasCode (by decide +kernel) dG_checkCode_3 (cG_hasC l (nx) M g γ hG (e0) (co)) rfl h0 rfl rfl (Nat.le_of_ble_eq_true rfl) ⟨Nat.le_of_ble_eq_true rfl, Nat.le_of_ble_eq_true rfl⟩ ⟨Nat.le_of_ble_eq_true rfl, Nat.le_of_ble_eq_true rfl⟩ ?_
  refine x_if_ne F (tgt := 19) dG_checkCode_6 (by decide) (fun c1 => ?_) (fun c1 => ?_)
  · skip
    have c1 : (gHas γ (e0) (co)) = true := bI_1 c1
    exact x_vret F hr dG_checkCode_19 (x_is_i _ _ _)
  · skip
    have c1 : (gHas γ (e0) (co)) = false := bI_0 c1
    rw [hok] at c1
    cases c1
set_option maxHeartbeats 4000000 in
set_option maxRecDepth 100000 in
theorem cG_checkCT (l : Launch) (hfl : x_fl l) (nx : Nat) (M : xH) (g : Nat) (γ : gS) (hG : gIs M g γ) (e0 : Int32) (co : Int64) (hok : gHas γ e0 co = false) : xT_ l xcl yG_checkCode (xw (Cond.code yG_checkCode bG_checkCode 4 none)) ({ frames := 6, cells := 1, slots := 6, locals := 90 } : Room) [.ref (g), .int (e0), .long (co)] nx M "java/lang/IllegalArgumentException" (kPost nx M) := by
  obtain ⟨⟨fT, h0, h4, hfT, hpr, hπ, hπi⟩, hRd, hTr, hNo, hLi, hFi⟩ := id hG
  have hpp := hπ γ.2.1 (by omega)
  refine yCT (by decide) (Nat.le_of_ble_eq_true rfl) ?_
  intro p e s m args below meth c D F hr hex
  refine x_aload_n F 0 dG_checkCode_0 rfl rfl ?_
  refine x_iload_n F 1 dG_checkCode_1 rfl rfl ?_
  refine x_lload_n F 2 dG_checkCode_2 rfl rfl ?_
  refine yV (n := 2) (As := [.int (e0), .long (co)]) (ci := 5) F kmG_119 kiG_hasCode ksG_hasCode knG kcG_hasCode (by decide +kernel) dG_checkCode_3 (cG_hasC l (nx) M g γ hG (e0) (co)) rfl h0 rfl rfl (Nat.le_of_ble_eq_true rfl) ⟨Nat.le_of_ble_eq_true rfl, Nat.le_of_ble_eq_true rfl⟩ ⟨Nat.le_of_ble_eq_true rfl, Nat.le_of_ble_eq_true rfl⟩ ?_
  refine x_if_ne F (tgt := 19) dG_checkCode_6 (by decide) (fun c1 => ?_) (fun c1 => ?_)
  · skip
    have c1 : (gHas γ (e0) (co)) = true := bI_1 c1
    rw [hok] at c1
    cases c1
  · skip
    have c1 : (gHas γ (e0) (co)) = false := bI_0 c1
    exact yT (tx := "no code of the edition") F hfl hex x_ok3 klG_123 kqJA knJA kcG_checkCode (by decide) (by decide) dG_checkCode_9 dG_checkCode_12 dG_checkCode_13 dG_checkCode_15 dG_checkCode_18 (Nat.le_of_ble_eq_true rfl) (Nat.le_of_ble_eq_true rfl) (Nat.le_of_ble_eq_true rfl) (Nat.le_of_ble_eq_true rfl) (Nat.le_of_ble_eq_true rfl) (Nat.le_of_ble_eq_true rfl) (fun n' hn' => ⟨hn', rfl⟩)
