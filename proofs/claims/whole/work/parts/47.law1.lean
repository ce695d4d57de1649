theorem gIs_fr {M M' : xH} {g : Nat} {γ : gS} (h : gIs M g γ) (hf : ∀ b, g ≤ b → b ≤ g + 45 → M' b = M b) : gIs M' g γ := by
  obtain ⟨⟨f, o0, o1, o2, o3, o4, o5⟩, hr, ht, hn, hl, hf2⟩ := h
  exact ⟨⟨f, (hf _ (by omega) (by omega)).trans o0, (hf _ (by omega) (by omega)).trans o1, o2, o3, o4, o5⟩, rAt_fr hr (fun b h1 h2 => hf b (by omega) (by omega)), fun i hi => tAt_fr (ht i hi) (fun b h1 h2 => hf b (by omega) (by have := o4 i hi; omega)), pAt_fr hn (fun b h1 h2 => hf b (by omega) (by omega)), pAt_fr hl (fun b h1 h2 => hf b (by omega) (by omega)), fAt_fr hf2 (fun b h1 h2 => hf b (by omega) (by omega))⟩
def frG (g : Nat) (M M' : xH) : Prop := ∀ b, (b < g ∨ g + 45 < b) → M' b = M b
def frM (a : Nat) (M M' : xH) : Prop := ∀ b, (b < a ∨ a + 18 < b) → M' b = M b
/-- THE WORLD: a class at g, a reference at a, that are alike; k: what the reference threw last -/
def RWk (M : xH) (g a : Nat) (k : Int32) : Prop := ∃ (γ : gS) (sg : Nat → Int32) (sn : Nat) (pr : Nat) (fk : Int32) (fp : Int32) (rws : Nat → Int32) (cd : Nat → Int64) (ds : Nat → Int32) (wc : Nat → Int32) (wd : Nat → Int64) (nn : Nat) (nE : Nat → Int32) (nC : Nat → Int64) (nK : Nat → Int32) (nO : Nat → Int64) (ln : Nat) (lF : Nat → Int32) (lC : Nat → Int64) (lT : Nat → Int32) (lO : Nat → Int64) (fn : Nat) (fC : Nat → Int64) (fP : Nat → Int32) (ak : Nat → Int64) (ac : Nat) (pt : Nat → Int32) (rw : Nat → Nat), gIs M g γ ∧ mAt M a k sg sn pr fk fp rws cd ds wc wd nn nE nC nK nO ln lF lC lT lO fn fC fP ak ac pt ∧ RL γ sg sn pr fk fp rws rw cd ds wc wd nn nE nC nK nO ln lF lC lT lO fn fC fP
abbrev rmC : Room := { frames := 8, cells := 0, slots := 0, locals := 200 }
abbrev rmM : Room := { frames := 8, cells := 0, slots := 0, locals := 250 }
abbrev rmH : Room := { frames := 9, cells := 1, slots := 6, locals := 230 }
/-- the class's call, and then the reference's: the same answer -/
def P2 (l : Launch) (yM : MethodName) (wsM : List Cond) (AsM : List Value) (nx : Nat) (M : xH) (g a : Nat) (v : Value) : xO → Nat → xH → Prop := fun r n' M' => r = some v ∧ n' = nx ∧ frG g M M' ∧ ∀ nx2, xC l xcl yM wsM rmM AsM nx2 M' (fun r n2 M2 => r = some v ∧ n2 = nx2 ∧ frM a M' M2 ∧ ∃ k, RWk M2 g a k)
theorem L2 {l : Launch} {yG yM : MethodName} {wsG wsM : List Cond} {rmG rmN : Room} {AsG AsM : List Value} {nx : Nat} {M : xH} {g a : Nat} {γ2 : gS} {vC v : Value} {th th2 : Int32} {sg : Nat → Int32} {sn : Nat} {pr : Nat} {fk : Int32} {fp : Int32} {rws : Nat → Int32} {cd : Nat → Int64} {ds : Nat → Int32} {wc : Nat → Int32} {wd : Nat → Int64} {nn : Nat} {nE : Nat → Int32} {nC : Nat → Int64} {nK : Nat → Int32} {nO : Nat → Int64} {ln : Nat} {lF : Nat → Int32} {lC : Nat → Int64} {lT : Nat → Int32} {lO : Nat → Int64} {fn : Nat} {fC : Nat → Int64} {fP : Nat → Int32} {ak : Nat → Int64} {ac : Nat} {pt : Nat → Int32} {sg2 : Nat → Int32} {sn2 : Nat} {pr2 : Nat} {fk2 : Int32} {fp2 : Int32} {rws2 : Nat → Int32} {cd2 : Nat → Int64} {ds2 : Nat → Int32} {wc2 : Nat → Int32} {wd2 : Nat → Int64} {nn2 : Nat} {nE2 : Nat → Int32} {nC2 : Nat → Int64} {nK2 : Nat → Int32} {nO2 : Nat → Int64} {ln2 : Nat} {lF2 : Nat → Int32} {lC2 : Nat → Int64} {lT2 : Nat → Int32} {lO2 : Nat → Int64} {fn2 : Nat} {fC2 : Nat → Int64} {fP2 : Nat → Int32} {ak2 : Nat → Int64} {ac2 : Nat} {pt2 : Nat → Int32} {rw2 : Nat → Nat} (hga : g + 45 < a) (hT : mAt M a th sg sn pr fk fp rws cd ds wc wd nn nE nC nK nO ln lF lC lT lO fn fC fP ak ac pt) (hv : vC = v) (hc : xC l xcl yG wsG rmG AsG nx M (gPost (some vC) nx M g γ2)) (hcf : rmG.frames ≤ 8) (hcl : rmG.locals ≤ 200) (hcc : rmG.cells ≤ 0) (hcs : rmG.slots ≤ 0) (hm : ∀ nx2 M2, mAt M2 a th sg sn pr fk fp rws cd ds wc wd nn nE nC nK nO ln lF lC lT lO fn fC fP ak ac pt → xC l xcl yM wsM rmN AsM nx2 M2 (mPost (some v) nx2 M2 a th2 sg2 sn2 pr2 fk2 fp2 rws2 cd2 ds2 wc2 wd2 nn2 nE2 nC2 nK2 nO2 ln2 lF2 lC2 lT2 lO2 fn2 fC2 fP2 ak2 ac2 pt2)) (hmf : rmN.frames ≤ 8) (hml : rmN.locals ≤ 250) (hmc : rmN.cells ≤ 0) (hms : rmN.slots ≤ 0) (hR : RL γ2 sg2 sn2 pr2 fk2 fp2 rws2 rw2 cd2 ds2 wc2 wd2 nn2 nE2 nC2 nK2 nO2 ln2 lF2 lC2 lT2 lO2 fn2 fC2 fP2) : xC l xcl yG wsG rmC AsG nx M (P2 l yM wsM AsM nx M g a v) :=
  xC.weak (xC.up hc hcf hcl hcc hcs) (fun r n' M' hp => by
    obtain ⟨e1, e2, e3, e4⟩ := hp
    exact ⟨e1.trans (by rw [hv]), e2, e4, fun nx2 => xC.weak (xC.up (hm nx2 M' (mAt_fr hT (fun b h1 h2 => e4 b (Or.inr (by omega))))) hmf hml hmc hms) (fun r n2 M2 hq => by
      obtain ⟨q1, q2, q3, q4⟩ := hq
      exact ⟨q1, q2, q4, th2, γ2, _, _, _, _, _, _, _, _, _, _, _, _, _, _, _, _, _, _, _, _, _, _, _, _, _, _, rw2, gIs_fr e3 (fun b h1 h2 => q4 b (Or.inl (by omega))), q3, hR⟩)⟩)
theorem is_gP {l : Launch} {y : MethodName} {ws : List Cond} {rm : Room} {As : List Value} {nx : Nat} {M : xH} {g : Nat} {γ : gS} {v : Option Value} (hG : gIs M g γ) (h : xC l xcl y ws rm As nx M (x_is v nx M)) : xC l xcl y ws rm As nx M (gPost v nx M g γ) := xC.weak h (fun r n' M' hp => by
  obtain ⟨e1, e2, e3⟩ := hp
  exact ⟨e1, e2, by rw [e3]; exact hG, fun b _ => by rw [e3]⟩)
set_option maxHeartbeats 2000000 in
theorem L_sign {l : Launch} {nx : Nat} {M : xH} {g a : Nat} (hga : g + 45 < a) (h : ∃ k, RWk M g a k) (i : Int32) : ∃ v : Int32, xC l xcl yG_sign (xw (Cond.code yG_sign bG_sign 2 (some .boolean))) rmC [.ref g, .int i] nx M (P2 l yM_sign (xw (Cond.code yM_sign bM_sign 3 (some .boolean))) [.ref a, .int i] nx M g a (.int v)) := by
  obtain ⟨k, γ, sg, sn, pr, fk, fp, rws, cd, ds, wc, wd, nn, nE, nC, nK, nO, ln, lF, lC, lT, lO, fn, fC, fP, ak, ac, pt, rw, hG, hT, hR⟩ := h
  have hT0 := id hT
  obtain ⟨-, -, -, -, -, -, -, -, -, -, -, -, -, -, -, -, -, -, -, hb1, hb2, hb3, hb4, hb5, hb6⟩ := hT0
  by_cases hs : sgn (sml i) = true ∧ sn < 400
  · obtain ⟨t, h0, h1, ht⟩ := sgn_t hs.1
    exact ⟨nI 1, L2 hga hT (rfl) (cG_signT l nx M g γ hG i t h1 ht (by rw [← ht]; exact hs.1) (by rw [hR.2.1.1]; exact hs.2)) (Nat.le_of_ble_eq_true rfl) (Nat.le_of_ble_eq_true rfl) (Nat.le_of_ble_eq_true rfl) (Nat.le_of_ble_eq_true rfl) (fun nx2 M2 hT2 => cM_signT l nx2 M2 a k sg sn pr fk fp rws cd ds wc wd nn nE nC nK nO ln lF lC lT lO fn fC fP ak ac pt hT2 i hs.1 hs.2) (Nat.le_of_ble_eq_true rfl) (Nat.le_of_ble_eq_true rfl) (Nat.le_of_ble_eq_true rfl) (Nat.le_of_ble_eq_true rfl) (R_sign hR ht h0 h1)⟩
  · exact ⟨nI 0, L2 hga hT (rfl) (is_gP hG (cG_signF l nx M g γ hG i (fun z => by rw [hR.2.1.1]; have : ¬ sn < 400 := fun q => hs ⟨z, q⟩; omega))) (Nat.le_of_ble_eq_true rfl) (Nat.le_of_ble_eq_true rfl) (Nat.le_of_ble_eq_true rfl) (Nat.le_of_ble_eq_true rfl) (fun nx2 M2 hT2 => cM_signF l nx2 M2 a k sg sn pr fk fp rws cd ds wc wd nn nE nC nK nO ln lF lC lT lO fn fC fP ak ac pt hT2 i (fun z => by have : ¬ sn < 400 := fun q => hs ⟨z, q⟩; omega)) (Nat.le_of_ble_eq_true rfl) (Nat.le_of_ble_eq_true rfl) (Nat.le_of_ble_eq_true rfl) (Nat.le_of_ble_eq_true rfl) (hR)⟩
set_option maxHeartbeats 2000000 in
theorem L_failure {l : Launch} {nx : Nat} {M : xH} {g a : Nat} (hga : g + 45 < a) (h : ∃ k, RWk M g a k) (i : Int32) : ∃ v : Int32, xC l xcl yG_failure (xw (Cond.code yG_failure bG_failure 2 (some .int))) rmC [.ref g, .int i] nx M (P2 l yM_failure (xw (Cond.code yM_failure bM_failure 2 (some .int))) [.ref a, .int i] nx M g a (.int v)) := by
  obtain ⟨k, γ, sg, sn, pr, fk, fp, rws, cd, ds, wc, wd, nn, nE, nC, nK, nO, ln, lF, lC, lT, lO, fn, fC, fP, ak, ac, pt, rw, hG, hT, hR⟩ := h
  have hT0 := id hT
  obtain ⟨-, -, -, -, -, -, -, -, -, -, -, -, -, -, -, -, -, -, -, hb1, hb2, hb3, hb4, hb5, hb6⟩ := hT0
  by_cases h0 : i = nI 0
  · subst h0
    exact ⟨fk, L2 hga hT (congrArg Value.int hR.2.1.2.1) (is_gP hG (cG_fail0 l nx M g γ hG )) (Nat.le_of_ble_eq_true rfl) (Nat.le_of_ble_eq_true rfl) (Nat.le_of_ble_eq_true rfl) (Nat.le_of_ble_eq_true rfl) (fun nx2 M2 hT2 => cM_fail0 l nx2 M2 a k sg sn pr fk fp rws cd ds wc wd nn nE nC nK nO ln lF lC lT lO fn fC fP ak ac pt hT2 ) (Nat.le_of_ble_eq_true rfl) (Nat.le_of_ble_eq_true rfl) (Nat.le_of_ble_eq_true rfl) (Nat.le_of_ble_eq_true rfl) (hR)⟩
  · by_cases h1 : i = nI 1
    · subst h1
      exact ⟨fp, L2 hga hT (congrArg Value.int hR.2.1.2.2.1) (is_gP hG (cG_fail1 l nx M g γ hG )) (Nat.le_of_ble_eq_true rfl) (Nat.le_of_ble_eq_true rfl) (Nat.le_of_ble_eq_true rfl) (Nat.le_of_ble_eq_true rfl) (fun nx2 M2 hT2 => cM_fail1 l nx2 M2 a k sg sn pr fk fp rws cd ds wc wd nn nE nC nK nO ln lF lC lT lO fn fC fP ak ac pt hT2 ) (Nat.le_of_ble_eq_true rfl) (Nat.le_of_ble_eq_true rfl) (Nat.le_of_ble_eq_true rfl) (Nat.le_of_ble_eq_true rfl) (hR)⟩
    · exact ⟨-1, L2 hga hT (rfl) (is_gP hG (cG_failN l nx M g γ hG i h0 h1)) (Nat.le_of_ble_eq_true rfl) (Nat.le_of_ble_eq_true rfl) (Nat.le_of_ble_eq_true rfl) (Nat.le_of_ble_eq_true rfl) (fun nx2 M2 hT2 => cM_failN l nx2 M2 a k sg sn pr fk fp rws cd ds wc wd nn nE nC nK nO ln lF lC lT lO fn fC fP ak ac pt hT2 i h0 h1) (Nat.le_of_ble_eq_true rfl) (Nat.le_of_ble_eq_true rfl) (Nat.le_of_ble_eq_true rfl) (Nat.le_of_ble_eq_true rfl) (hR)⟩
set_option maxHeartbeats 2000000 in
theorem L_edition {l : Launch} {nx : Nat} {M : xH} {g a : Nat} (hga : g + 45 < a) (h : ∃ k, RWk M g a k) (i : Int32) : ∃ v : Int32, xC l xcl yG_edition (xw (Cond.code yG_edition bG_edition 2 (some .boolean))) rmC [.ref g, .int i] nx M (P2 l yM_edition (xw (Cond.code yM_edition bM_edition 2 (some .boolean))) [.ref a, .int i] nx M g a (.int v)) := by
  obtain ⟨k, γ, sg, sn, pr, fk, fp, rws, cd, ds, wc, wd, nn, nE, nC, nK, nO, ln, lF, lC, lT, lO, fn, fC, fP, ak, ac, pt, rw, hG, hT, hR⟩ := h
  have hT0 := id hT
  obtain ⟨-, -, -, -, -, -, -, -, -, -, -, -, -, -, -, -, -, -, -, hb1, hb2, hb3, hb4, hb5, hb6⟩ := hT0
  by_cases hz : inE i = false ∨ i = nI pr
  · exact ⟨nI 0, L2 hga hT (rfl) (is_gP hG (cG_editionF l nx M g γ hG i (by rw [hR.1.1]; exact hz))) (Nat.le_of_ble_eq_true rfl) (Nat.le_of_ble_eq_true rfl) (Nat.le_of_ble_eq_true rfl) (Nat.le_of_ble_eq_true rfl) (fun nx2 M2 hT2 => cM_editionF l nx2 M2 a k sg sn pr fk fp rws cd ds wc wd nn nE nC nK nO ln lF lC lT lO fn fC fP ak ac pt hT2 i hz) (Nat.le_of_ble_eq_true rfl) (Nat.le_of_ble_eq_true rfl) (Nat.le_of_ble_eq_true rfl) (Nat.le_of_ble_eq_true rfl) (hR)⟩
  · obtain ⟨j, hj, rfl⟩ := inE_n (show inE i = true from by cases hq : inE i with
    | true => rfl
    | false => exact absurd (Or.inl hq) hz)
    have hne : j ≠ pr := fun z => hz (Or.inr (by rw [z]))
    exact ⟨nI 1, L2 hga hT (rfl) (cG_editionT l nx M g γ hG j hj (by rw [hR.1.1]; exact hne)) (Nat.le_of_ble_eq_true rfl) (Nat.le_of_ble_eq_true rfl) (Nat.le_of_ble_eq_true rfl) (Nat.le_of_ble_eq_true rfl) (fun nx2 M2 hT2 => cM_editionT l nx2 M2 a k sg sn pr fk fp rws cd ds wc wd nn nE nC nK nO ln lF lC lT lO fn fC fP ak ac pt hT2 j hj hne) (Nat.le_of_ble_eq_true rfl) (Nat.le_of_ble_eq_true rfl) (Nat.le_of_ble_eq_true rfl) (Nat.le_of_ble_eq_true rfl) (R_ed hR hj)⟩
set_option maxHeartbeats 2000000 in
theorem L_find {l : Launch} {nx : Nat} {M : xH} {g a : Nat} (hga : g + 45 < a) (h : ∃ k, RWk M g a k) (co : Int64) : ∃ v : Int32, xC l xcl yG_find (xw (Cond.code yG_find bG_find 3 (some .int))) rmC [.ref g, .long co] nx M (P2 l yM_find (xw (Cond.code yM_find bM_find 3 (some .int))) [.ref a, .long co] nx M g a (.int v)) := by
  obtain ⟨k, γ, sg, sn, pr, fk, fp, rws, cd, ds, wc, wd, nn, nE, nC, nK, nO, ln, lF, lC, lT, lO, fn, fC, fP, ak, ac, pt, rw, hG, hT, hR⟩ := h
  have hT0 := id hT
  obtain ⟨-, -, -, -, -, -, -, -, -, -, -, -, -, -, -, -, -, -, -, hb1, hb2, hb3, hb4, hb5, hb6⟩ := hT0
  exact ⟨oi (mRow rw cd pr co), L2 hga hT (by rw [hR.1.1, R_row hR hR.1.2]) (is_gP hG (cG_find l nx M g γ hG co)) (Nat.le_of_ble_eq_true rfl) (Nat.le_of_ble_eq_true rfl) (Nat.le_of_ble_eq_true rfl) (Nat.le_of_ble_eq_true rfl) (fun nx2 M2 hT2 => cM_find l nx2 M2 a k sg sn pr fk fp rws cd ds wc wd nn nE nC nK nO ln lF lC lT lO fn fC fP ak ac pt hT2 rw hR.2.2.1 co) (Nat.le_of_ble_eq_true rfl) (Nat.le_of_ble_eq_true rfl) (Nat.le_of_ble_eq_true rfl) (Nat.le_of_ble_eq_true rfl) (hR)⟩
set_option maxHeartbeats 2000000 in
theorem L_link {l : Launch} {nx : Nat} {M : xH} {g a : Nat} (hga : g + 45 < a) (h : ∃ k, RWk M g a k) (aa : Int32) (co : Int64) (bb : Int32) (oo : Int64) : ∃ v : Int32, xC l xcl yG_link (xw (Cond.code yG_link bG_link 7 (some .boolean))) rmC [.ref g, .int aa, .long co, .int bb, .long oo] nx M (P2 l yM_link (xw (Cond.code yM_link bM_link 8 (some .boolean))) [.ref a, .int aa, .long co, .int bb, .long oo] nx M g a (.int v)) := by
  obtain ⟨k, γ, sg, sn, pr, fk, fp, rws, cd, ds, wc, wd, nn, nE, nC, nK, nO, ln, lF, lC, lT, lO, fn, fC, fP, ak, ac, pt, rw, hG, hT, hR⟩ := h
  have hT0 := id hT
  obtain ⟨-, -, -, -, -, -, -, -, -, -, -, -, -, -, -, -, -, -, -, hb1, hb2, hb3, hb4, hb5, hb6⟩ := hT0
  have hc := cG_link l nx M g γ hG aa co bb oo
  cases hE : edOk aa bb with
  | false =>
    rw [R_lkF hE] at hc
    exact ⟨nI 0, L2 hga hT (rfl) hc (Nat.le_of_ble_eq_true rfl) (Nat.le_of_ble_eq_true rfl) (Nat.le_of_ble_eq_true rfl) (Nat.le_of_ble_eq_true rfl) (fun nx2 M2 hT2 => cM_linkE l nx2 M2 a k sg sn pr fk fp rws cd ds wc wd nn nE nC nK nO ln lF lC lT lO fn fC fP ak ac pt hT2 aa co bb oo hE) (Nat.le_of_ble_eq_true rfl) (Nat.le_of_ble_eq_true rfl) (Nat.le_of_ble_eq_true rfl) (Nat.le_of_ble_eq_true rfl) (hR)⟩
  | true =>
    obtain ⟨k1, k2, hk1, hk2, hne, rfl, rfl⟩ := edOk_n hE
    have hq := R_lk hR hb4 hk1 hk2 hne co oo
    cases hz : mLq rw cd ln lF lC lT lO k1 co k2 oo with
    | false =>
      rw [hq, hz] at hc
      exact ⟨nI 0, L2 hga hT (rfl) hc (Nat.le_of_ble_eq_true rfl) (Nat.le_of_ble_eq_true rfl) (Nat.le_of_ble_eq_true rfl) (Nat.le_of_ble_eq_true rfl) (fun nx2 M2 hT2 => cM_linkF l nx2 M2 a k sg sn pr fk fp rws cd ds wc wd nn nE nC nK nO ln lF lC lT lO fn fC fP ak ac pt hT2 rw hR.2.2.1 k1 k2 hk1 hk2 hne co oo hz) (Nat.le_of_ble_eq_true rfl) (Nat.le_of_ble_eq_true rfl) (Nat.le_of_ble_eq_true rfl) (Nat.le_of_ble_eq_true rfl) (hR)⟩
    | true =>
      rw [hq, hz] at hc
      exact ⟨nI 1, L2 hga hT (rfl) hc (Nat.le_of_ble_eq_true rfl) (Nat.le_of_ble_eq_true rfl) (Nat.le_of_ble_eq_true rfl) (Nat.le_of_ble_eq_true rfl) (fun nx2 M2 hT2 => cM_linkT l nx2 M2 a k sg sn pr fk fp rws cd ds wc wd nn nE nC nK nO ln lF lC lT lO fn fC fP ak ac pt hT2 rw hR.2.2.1 k1 k2 hk1 hk2 hne co oo hz) (Nat.le_of_ble_eq_true rfl) (Nat.le_of_ble_eq_true rfl) (Nat.le_of_ble_eq_true rfl) (Nat.le_of_ble_eq_true rfl) (R_link hR (nI k1) co (nI k2) oo)⟩
set_option maxHeartbeats 2000000 in
theorem L_count {l : Launch} {nx : Nat} {M : xH} {g a : Nat} (hga : g + 45 < a) (h : ∃ k, RWk M g a k) (i : Int32) : ∃ v : Int32, xC l xcl yG_count (xw (Cond.code yG_count bG_count 2 (some .int))) rmC [.ref g, .int i] nx M (P2 l yM_count (xw (Cond.code yM_count bM_count 4 (some .int))) [.ref a, .int i] nx M g a (.int v)) := by
  obtain ⟨k, γ, sg, sn, pr, fk, fp, rws, cd, ds, wc, wd, nn, nE, nC, nK, nO, ln, lF, lC, lT, lO, fn, fC, fP, ak, ac, pt, rw, hG, hT, hR⟩ := h
  have hT0 := id hT
  obtain ⟨-, -, -, -, -, -, -, -, -, -, -, -, -, -, -, -, -, -, -, hb1, hb2, hb3, hb4, hb5, hb6⟩ := hT0
  have key : ¬ vp_in i 5 → ∃ v : Int32, xC l xcl yG_count (xw (Cond.code yG_count bG_count 2 (some .int))) rmC [.ref g, .int i] nx M (P2 l yM_count (xw (Cond.code yM_count bM_count 4 (some .int))) [.ref a, .int i] nx M g a (.int v)) := fun h5 => by
    cases hz : inE (i - nI 10) with
    | true =>
      obtain ⟨k1, hk1, hi⟩ := inE_n hz
      have hi2 : i = nI (10 + k1) := by rw [← nI_add 10 k1, ← hi, Int32.add_comm, Int32.sub_add_cancel]
      subst hi2
      exact ⟨nI (rw k1), L2 hga hT (by rw [(hR.2.2.2.1 k1 hk1).1]) (is_gP hG (cG_count10 l nx M g γ hG (nI (10 + k1)) h5 k1 hk1 hi)) (Nat.le_of_ble_eq_true rfl) (Nat.le_of_ble_eq_true rfl) (Nat.le_of_ble_eq_true rfl) (Nat.le_of_ble_eq_true rfl) (fun nx2 M2 hT2 => cM_count10 l nx2 M2 a k sg sn pr fk fp rws cd ds wc wd nn nE nC nK nO ln lF lC lT lO fn fC fP ak ac pt hT2 rw hR.2.2.1 k1 hk1) (Nat.le_of_ble_eq_true rfl) (Nat.le_of_ble_eq_true rfl) (Nat.le_of_ble_eq_true rfl) (Nat.le_of_ble_eq_true rfl) (hR)⟩
    | false =>
      cases hz2 : inE (i - nI 20) with
      | true =>
        obtain ⟨k1, hk1, hi⟩ := inE_n hz2
        have hi2 : i = nI (20 + k1) := by rw [← nI_add 20 k1, ← hi, Int32.add_comm, Int32.sub_add_cancel]
        subst hi2
        exact ⟨nI (ct (fun j => decide (ds (40 * k1 + j) = 0)) (rw k1) 0 0), L2 hga hT (by rw [R_cp hR hk1]) (is_gP hG (cG_count20 l nx M g γ hG (nI (20 + k1)) h5 hz k1 hk1 hi)) (Nat.le_of_ble_eq_true rfl) (Nat.le_of_ble_eq_true rfl) (Nat.le_of_ble_eq_true rfl) (Nat.le_of_ble_eq_true rfl) (fun nx2 M2 hT2 => cM_count20 l nx2 M2 a k sg sn pr fk fp rws cd ds wc wd nn nE nC nK nO ln lF lC lT lO fn fC fP ak ac pt hT2 rw hR.2.2.1 k1 hk1) (Nat.le_of_ble_eq_true rfl) (Nat.le_of_ble_eq_true rfl) (Nat.le_of_ble_eq_true rfl) (Nat.le_of_ble_eq_true rfl) (hR)⟩
      | false =>
        exact ⟨-1, L2 hga hT (rfl) (is_gP hG (cG_countN l nx M g γ hG i h5 hz hz2)) (Nat.le_of_ble_eq_true rfl) (Nat.le_of_ble_eq_true rfl) (Nat.le_of_ble_eq_true rfl) (Nat.le_of_ble_eq_true rfl) (fun nx2 M2 hT2 => cM_countN l nx2 M2 a k sg sn pr fk fp rws cd ds wc wd nn nE nC nK nO ln lF lC lT lO fn fC fP ak ac pt hT2 i h5 hz hz2) (Nat.le_of_ble_eq_true rfl) (Nat.le_of_ble_eq_true rfl) (Nat.le_of_ble_eq_true rfl) (Nat.le_of_ble_eq_true rfl) (hR)⟩
  by_cases h5 : vp_in i 5
  · have hi : ∃ j, j < 5 ∧ i = nI j := by
      rcases pk_ix i (n := 5) (by decide) with q | q | q
      · exact absurd h5 (fun z => by
        have z := vp_in_iff.mp z
        have := Int32.lt_iff_toInt_lt.mp q
        have : (0 : Int32).toInt = 0 := rfl
        omega)
      · exact absurd h5 (fun z => by
        have z := vp_in_iff.mp z
        have := Int32.le_iff_toInt_le.mp q
        rw [nI_toInt (by decide)] at this
        omega)
      · exact q
    obtain ⟨j, hj, rfl⟩ := hi
    rcases j with _ | _ | _ | _ | _ | j
    · exact ⟨nI sn, L2 hga hT (by rw [hR.2.1.1]) (is_gP hG (cG_count0 l nx M g γ hG )) (Nat.le_of_ble_eq_true rfl) (Nat.le_of_ble_eq_true rfl) (Nat.le_of_ble_eq_true rfl) (Nat.le_of_ble_eq_true rfl) (fun nx2 M2 hT2 => cM_count0 l nx2 M2 a k sg sn pr fk fp rws cd ds wc wd nn nE nC nK nO ln lF lC lT lO fn fC fP ak ac pt hT2 ) (Nat.le_of_ble_eq_true rfl) (Nat.le_of_ble_eq_true rfl) (Nat.le_of_ble_eq_true rfl) (Nat.le_of_ble_eq_true rfl) (hR)⟩
    · exact ⟨nI pr, L2 hga hT (by rw [hR.1.1]) (is_gP hG (cG_count1 l nx M g γ hG )) (Nat.le_of_ble_eq_true rfl) (Nat.le_of_ble_eq_true rfl) (Nat.le_of_ble_eq_true rfl) (Nat.le_of_ble_eq_true rfl) (fun nx2 M2 hT2 => cM_count1 l nx2 M2 a k sg sn pr fk fp rws cd ds wc wd nn nE nC nK nO ln lF lC lT lO fn fC fP ak ac pt hT2 ) (Nat.le_of_ble_eq_true rfl) (Nat.le_of_ble_eq_true rfl) (Nat.le_of_ble_eq_true rfl) (Nat.le_of_ble_eq_true rfl) (hR)⟩
    · exact ⟨nI nn, L2 hga hT (by rw [pE_n hR.2.2.2.2.1]) (is_gP hG (cG_count2 l nx M g γ hG )) (Nat.le_of_ble_eq_true rfl) (Nat.le_of_ble_eq_true rfl) (Nat.le_of_ble_eq_true rfl) (Nat.le_of_ble_eq_true rfl) (fun nx2 M2 hT2 => cM_count2 l nx2 M2 a k sg sn pr fk fp rws cd ds wc wd nn nE nC nK nO ln lF lC lT lO fn fC fP ak ac pt hT2 ) (Nat.le_of_ble_eq_true rfl) (Nat.le_of_ble_eq_true rfl) (Nat.le_of_ble_eq_true rfl) (Nat.le_of_ble_eq_true rfl) (hR)⟩
    · exact ⟨nI ln, L2 hga hT (by rw [pE_n hR.2.2.2.2.2.1]) (is_gP hG (cG_count3 l nx M g γ hG )) (Nat.le_of_ble_eq_true rfl) (Nat.le_of_ble_eq_true rfl) (Nat.le_of_ble_eq_true rfl) (Nat.le_of_ble_eq_true rfl) (fun nx2 M2 hT2 => cM_count3 l nx2 M2 a k sg sn pr fk fp rws cd ds wc wd nn nE nC nK nO ln lF lC lT lO fn fC fP ak ac pt hT2 ) (Nat.le_of_ble_eq_true rfl) (Nat.le_of_ble_eq_true rfl) (Nat.le_of_ble_eq_true rfl) (Nat.le_of_ble_eq_true rfl) (hR)⟩
    · exact ⟨nI fn, L2 hga hT (by rw [fE_n hR.2.2.2.2.2.2]) (is_gP hG (cG_count4 l nx M g γ hG )) (Nat.le_of_ble_eq_true rfl) (Nat.le_of_ble_eq_true rfl) (Nat.le_of_ble_eq_true rfl) (Nat.le_of_ble_eq_true rfl) (fun nx2 M2 hT2 => cM_count4 l nx2 M2 a k sg sn pr fk fp rws cd ds wc wd nn nE nC nK nO ln lF lC lT lO fn fC fP ak ac pt hT2 ) (Nat.le_of_ble_eq_true rfl) (Nat.le_of_ble_eq_true rfl) (Nat.le_of_ble_eq_true rfl) (Nat.le_of_ble_eq_true rfl) (hR)⟩
    · omega
  · exact key h5
