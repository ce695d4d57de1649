section RN
variable {γ : gS} {sg : Nat → Int32} {sn pr : Nat} {fk fp : Int32} {rws : Nat → Int32} {rw : Nat → Nat} {cd : Nat → Int64} {ds wc : Nat → Int32} {wd : Nat → Int64} {nn : Nat} {nE : Nat → Int32} {nC : Nat → Int64} {nK : Nat → Int32} {nO : Nat → Int64} {ln : Nat} {lF : Nat → Int32} {lC : Nat → Int64} {lT : Nat → Int32} {lO : Nat → Int64} {fn : Nat} {fC : Nat → Int64} {fP : Nat → Int32}
theorem i32_rng {c : Int32} {a b : Nat} (hb : b < 128) (h1 : nI a ≤ c) (h2 : c ≤ nI b) (ha : a < 128) : ∃ t, a ≤ t ∧ t ≤ b ∧ c = nI t := by
  rcases pk_ix c (n := 128) (by omega) with q | q | ⟨j, hj, rfl⟩
  · have a1 := Int32.lt_iff_toInt_lt.mp q
    have a2 := Int32.le_iff_toInt_le.mp h1
    rw [nI_toInt (by omega)] at a2
    have : (0 : Int32).toInt = 0 := rfl
    omega
  · have a1 := Int32.le_iff_toInt_le.mp q
    have a2 := Int32.le_iff_toInt_le.mp h2
    rw [nI_toInt (by omega)] at a1 a2
    omega
  · exact ⟨j, (nI_leI (by omega) (by omega)).mp h1, (nI_leI (by omega) (by omega)).mp h2, rfl⟩
theorem sgn_t {c : Int32} (h : sgn c = true) : ∃ t, 0 < t ∧ t < 128 ∧ c = nI t := by
  unfold sgn at h
  simp only [Bool.or_eq_true, Bool.and_eq_true, decide_eq_true_eq] at h
  rcases h with h | h | h | h | h
  · exact ⟨45, by omega, by omega, h⟩
  · exact ⟨46, by omega, by omega, h⟩
  · exact ⟨59, by omega, by omega, h⟩
  · obtain ⟨t, a, b, c⟩ := i32_rng (by omega) h.1 h.2 (by omega)
    exact ⟨t, by omega, by omega, c⟩
  · obtain ⟨t, a, b, c⟩ := i32_rng (by omega) h.1 h.2 (by omega)
    exact ⟨t, by omega, by omega, c⟩
theorem R_sign (h : RL γ sg sn pr fk fp rws rw cd ds wc wd nn nE nC nK nO ln lF lC lT lO fn fC fP) {c : Int32} {t : Nat} (hc : c = nI t) (h0 : 0 < t) (h1 : t < 128) : RL (gRd γ (upd (γ.2.2.1).1 (γ.2.2.1).2.2.2.1 (nI t), (γ.2.2.1).2.1, (γ.2.2.1).2.2.1, (γ.2.2.1).2.2.2.1 + 1, (γ.2.2.1).2.2.2.2)) (upd sg sn c) (sn + 1) pr fk fp rws rw cd ds wc wd nn nE nC nK nO ln lF lC lT lO fn fC fP := by
  obtain ⟨a1, ⟨b1, b2, b3, tx, b4, b5, b6⟩, a3, a4, a5, a6, a7⟩ := h
  refine ⟨a1, ⟨by show γ.2.2.1.2.2.2.1 + 1 = _; rw [b1], b2, b3, uN tx sn t, ?_, ?_, ?_⟩, a3, a4, a5, a6, a7⟩
  · intro i hi
    show upd γ.2.2.1.1 γ.2.2.1.2.2.2.1 (nI t) i = _ ∧ _
    rw [b1]
    by_cases hin : i = sn
    · subst hin
      rw [upd_s, uN_s]; exact ⟨rfl, h1⟩
    · rw [upd_ne hin, uN_n hin]; exact b4 i (by omega)
  · intro i hi
    by_cases hin : i = sn
    · subst hin
      rw [upd_s, uN_s]; exact ⟨hc, h1⟩
    · rw [upd_ne hin, uN_n hin]; exact b5 i (by omega)
  · intro i hi
    by_cases hin : i = sn
    · subst hin
      rw [uN_s]; exact h0
    · rw [uN_n hin]; exact b6 i (by omega)
theorem R_ed (h : RL γ sg sn pr fk fp rws rw cd ds wc wd nn nE nC nK nO ln lF lC lT lO fn fC fP) {k : Nat} (hk : k < 3) : RL (gPr γ k) sg sn k fk fp rws rw cd ds wc wd nn nE nC nK nO ln lF lC lT lO fn fC fP := by
  obtain ⟨a1, a2, a3, a4, a5, a6, a7⟩ := h
  exact ⟨⟨rfl, hk⟩, a2, a3, a4, a5, a6, a7⟩
theorem R_note (h : RL γ sg sn pr fk fp rws rw cd ds wc wd nn nE nC nK nO ln lF lC lT lO fn fC fP) (co : Int64) (kd : Int32) (oo : Int64) : RL (gNt γ (padd γ.2.2.2.2.1 (nI γ.2.1) co kd oo)) sg sn pr fk fp rws rw cd ds wc wd (nn + 1) (upd nE nn (nI pr)) (vp_updL nC nn co) (upd nK nn kd) (vp_updL nO nn oo) ln lF lC lT lO fn fC fP := by
  obtain ⟨a1, a2, a3, a4, a5, a6, a7⟩ := h
  refine ⟨a1, a2, a3, a4, ?_, a6, a7⟩
  rw [a1.1]; exact pE_add a5 _ _ _ _
theorem R_notes (h : RL γ sg sn pr fk fp rws rw cd ds wc wd nn nE nC nK nO ln lF lC lT lO fn fC fP) (co : Int64) (kd : Int32) (oo : Int64) : ct (fun j => decide ((padd γ.2.2.2.2.1 (nI γ.2.1) co kd oo).1 j = nI γ.2.1)) (padd γ.2.2.2.2.1 (nI γ.2.1) co kd oo).2.2.2.2 0 0 = ct (fun j => decide (upd nE nn (nI pr) j = nI pr)) (nn + 1) 0 0 := by
  have h1 : pE (padd γ.2.2.2.2.1 (nI γ.2.1) co kd oo) (nn + 1) (upd nE nn (nI pr)) (vp_updL nC nn co) (upd nK nn kd) (vp_updL nO nn oo) := (R_note h co kd oo).2.2.2.2.1
  rw [pE_n h1]
  exact ct_ext (fun j _ hj => by rw [(pE_i h1 (show j < nn + 1 by omega)).1, h.1.1])
theorem R_link (h : RL γ sg sn pr fk fp rws rw cd ds wc wd nn nE nC nK nO ln lF lC lT lO fn fC fP) (aa : Int32) (co : Int64) (bb : Int32) (oo : Int64) : RL (gLk γ (padd γ.2.2.2.2.2.1 aa co bb oo)) sg sn pr fk fp rws rw cd ds wc wd nn nE nC nK nO (ln + 1) (upd lF ln aa) (vp_updL lC ln co) (upd lT ln bb) (vp_updL lO ln oo) fn fC fP := by
  obtain ⟨a1, a2, a3, a4, a5, a6, a7⟩ := h
  exact ⟨a1, a2, a3, a4, a5, pE_add a6 _ _ _ _, a7⟩
/-- rows -/
theorem R_r (h : RL γ sg sn pr fk fp rws rw cd ds wc wd nn nE nC nK nO ln lF lC lT lO fn fC fP) {k : Nat} (hk : k < rw pr) : (γ.2.2.2.1 γ.2.1).1 k = cd (40 * pr + k) ∧ (γ.2.2.2.1 γ.2.1).2.1 k = ds (40 * pr + k) ∧ (γ.2.2.2.1 γ.2.1).2.2.2.2.1 k = wc (40 * pr + k) ∧ (γ.2.2.2.1 γ.2.1).2.2.2.1 k = nI (mBl ds (40 * pr) (rw pr) k) ∧ (γ.2.2.2.1 γ.2.1).2.2.1 k = oi (mUp ds (40 * pr) k) ∧ rw pr ≤ 40 := by
  obtain ⟨a1, a2, a3, a4, a5, a6, a7⟩ := h
  obtain ⟨hr, xs, dg, dd, wn, ht, ha⟩ := a4 pr a1.2
  rw [a1.1]
  have hk' : k < (γ.2.2.2.1 pr).2.2.2.2.2.2.1 := by omega
  obtain ⟨b1, b2, b3, b4⟩ := ha k hk'
  obtain ⟨c1, c2, c3, c4, c5, c6, c7, c8⟩ := ht.2.1 k hk'
  refine ⟨b1.symm, b2.symm, b3.symm, ?_, ?_, by rw [hr]; exact ht.1⟩
  · rw [c6, hr, mBl_N (dd := dd) (fun i hi => ⟨by rw [(ha i hi).2.1, (ht.2.1 i hi).2.2.1], (ht.2.1 i hi).2.2.2.1⟩) hk']
  · rw [c5, tI_up ht ha hk']
end RN
