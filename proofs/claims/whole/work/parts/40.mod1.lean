/-! THE REFERENCE at a: its eighteen arrays at a + 1 .. a + 18 -/
def mAt (M : xH) (a : Nat) (th : Int32) (sg : Nat → Int32) (sn pr : Nat) (fk fp : Int32) (rws : Nat → Int32) (cd : Nat → Int64) (ds wc : Nat → Int32) (wd : Nat → Int64) (nn : Nat) (nE : Nat → Int32) (nC : Nat → Int64) (nK : Nat → Int32) (nO : Nat → Int64) (ln : Nat) (lF : Nat → Int32) (lC : Nat → Int64) (lT : Nat → Int32) (lO : Nat → Int64) (fn : Nat) (fC : Nat → Int64) (fP : Nat → Int32) (ak : Nat → Int64) (ac : Nat) (pt : Nat → Int32) : Prop :=
  M a = some (.inr (6, [.int th, .ref (a + 1), .int (nI sn), .int (nI pr), .int fk, .int fp, .ref (a + 2), .ref (a + 3), .ref (a + 4), .ref (a + 5), .ref (a + 6), .int (nI nn), .ref (a + 7), .ref (a + 8), .ref (a + 9), .ref (a + 10), .int (nI ln), .ref (a + 11), .ref (a + 12), .ref (a + 13), .ref (a + 14), .int (nI fn), .ref (a + 15), .ref (a + 16), .ref (a + 17), .int (nI ac), .ref (a + 18)])) ∧ M (a + 1) = some (.inl (.int, 400, .inl sg)) ∧ M (a + 2) = some (.inl (.int, 4, .inl rws)) ∧ M (a + 3) = some (.inl (.long, 160, .inr (.inl cd))) ∧ M (a + 4) = some (.inl (.int, 160, .inl ds)) ∧ M (a + 5) = some (.inl (.int, 160, .inl wc)) ∧ M (a + 6) = some (.inl (.long, 640, .inr (.inl wd))) ∧ M (a + 7) = some (.inl (.int, 20, .inl nE)) ∧ M (a + 8) = some (.inl (.long, 20, .inr (.inl nC))) ∧ M (a + 9) = some (.inl (.int, 20, .inl nK)) ∧ M (a + 10) = some (.inl (.long, 20, .inr (.inl nO))) ∧ M (a + 11) = some (.inl (.int, 60, .inl lF)) ∧ M (a + 12) = some (.inl (.long, 60, .inr (.inl lC))) ∧ M (a + 13) = some (.inl (.int, 60, .inl lT)) ∧ M (a + 14) = some (.inl (.long, 60, .inr (.inl lO))) ∧ M (a + 15) = some (.inl (.long, 40, .inr (.inl fC))) ∧ M (a + 16) = some (.inl (.int, 40, .inl fP)) ∧ M (a + 17) = some (.inl (.long, 6, .inr (.inl ak))) ∧ M (a + 18) = some (.inl (.int, 40, .inl pt)) ∧ sn ≤ 400 ∧ pr < 3 ∧ nn ≤ 20 ∧ ln ≤ 60 ∧ fn ≤ 40 ∧ ac ≤ 6
theorem mAt_fr {M M' : xH} {a : Nat} {th : Int32} {sg : Nat → Int32} {sn pr : Nat} {fk fp : Int32} {rws : Nat → Int32} {cd : Nat → Int64} {ds wc : Nat → Int32} {wd : Nat → Int64} {nn : Nat} {nE : Nat → Int32} {nC : Nat → Int64} {nK : Nat → Int32} {nO : Nat → Int64} {ln : Nat} {lF : Nat → Int32} {lC : Nat → Int64} {lT : Nat → Int32} {lO : Nat → Int64} {fn : Nat} {fC : Nat → Int64} {fP : Nat → Int32} {ak : Nat → Int64} {ac : Nat} {pt : Nat → Int32} (h : mAt M a th sg sn pr fk fp rws cd ds wc wd nn nE nC nK nO ln lF lC lT lO fn fC fP ak ac pt) (hf : ∀ b, a ≤ b → b ≤ a + 18 → M' b = M b) : mAt M' a th sg sn pr fk fp rws cd ds wc wd nn nE nC nK nO ln lF lC lT lO fn fC fP ak ac pt := by
  obtain ⟨h0, h1, h2, h3, h4, h5, h6, h7, h8, h9, h10, h11, h12, h13, h14, h15, h16, h17, h18, hb⟩ := h
  exact ⟨(hf _ (by omega) (by omega)).trans h0, (hf _ (by omega) (by omega)).trans h1, (hf _ (by omega) (by omega)).trans h2, (hf _ (by omega) (by omega)).trans h3, (hf _ (by omega) (by omega)).trans h4, (hf _ (by omega) (by omega)).trans h5, (hf _ (by omega) (by omega)).trans h6, (hf _ (by omega) (by omega)).trans h7, (hf _ (by omega) (by omega)).trans h8, (hf _ (by omega) (by omega)).trans h9, (hf _ (by omega) (by omega)).trans h10, (hf _ (by omega) (by omega)).trans h11, (hf _ (by omega) (by omega)).trans h12, (hf _ (by omega) (by omega)).trans h13, (hf _ (by omega) (by omega)).trans h14, (hf _ (by omega) (by omega)).trans h15, (hf _ (by omega) (by omega)).trans h16, (hf _ (by omega) (by omega)).trans h17, (hf _ (by omega) (by omega)).trans h18, hb⟩
def mPost (v : Option Value) (nx : Nat) (M : xH) (a : Nat) (th : Int32) (sg : Nat → Int32) (sn pr : Nat) (fk fp : Int32) (rws : Nat → Int32) (cd : Nat → Int64) (ds wc : Nat → Int32) (wd : Nat → Int64) (nn : Nat) (nE : Nat → Int32) (nC : Nat → Int64) (nK : Nat → Int32) (nO : Nat → Int64) (ln : Nat) (lF : Nat → Int32) (lC : Nat → Int64) (lT : Nat → Int32) (lO : Nat → Int64) (fn : Nat) (fC : Nat → Int64) (fP : Nat → Int32) (ak : Nat → Int64) (ac : Nat) (pt : Nat → Int32) : xO → Nat → xH → Prop := fun r n' M' => r = v ∧ n' = nx ∧ mAt M' a th sg sn pr fk fp rws cd ds wc wd nn nE nC nK nO ln lF lC lT lO fn fC fP ak ac pt ∧ ∀ b, (b < a ∨ a + 18 < b) → M' b = M b
/-- how many rows an edition has -/
def mR (rws : Nat → Int32) (rw : Nat → Nat) : Prop := ∀ i, i < 4 → rws i = nI (rw i) ∧ rw i ≤ 40
/-- a code of d digits, a 1 ahead -/
def cdg (x d : Nat) : Prop := 10 ^ d ≤ x ∧ x < 2 * 10 ^ d ∧ d ≤ 10
theorem cdg_lt {x d : Nat} (h : cdg x d) : x < 2 ^ 40 := by
  have : 10 ^ d ≤ 10 ^ 10 := Nat.pow_le_pow_right (by omega) h.2.2
  have := h.2.1
  omega
theorem cdg_div {x d : Nat} (h : cdg x (d + 1)) : cdg (x / 10) d := by
  obtain ⟨h1, h2, h3⟩ := h
  rw [Nat.pow_succ] at h1 h2
  exact ⟨by omega, by omega, by omega⟩
theorem cdg_0 {x : Nat} (h : cdg x 0) : x = 1 := by
  obtain ⟨h1, h2, h3⟩ := h
  simp at h1 h2; omega
theorem cdg_10 {x d : Nat} (h : cdg x (d + 1)) : 10 ≤ x := by
  obtain ⟨h1, h2, h3⟩ := h
  rw [Nat.pow_succ] at h1
  have : 0 < 10 ^ d := Nat.pow_pos (by omega)
  omega
def mbg (x d y f : Nat) : Bool := decide (f < d) && decide (x / 10 ^ (d - f) = y)
def mbh (x d y f : Nat) : Bool := (if d < f then decide (y / 10 ^ (f - d) < x) else decide (y < x / 10 ^ (d - f))) || mbg x d y f
/-- the row above the i-th behind f -/
def mUp (ds : Nat → Int32) (f i : Nat) : Option Nat := if ds (f + i) = 0 then none else la (fun j => decide (ds (f + j) = ds (f + i) - nI 1)) i
def oj (f : Nat) (r : Option Nat) : Int32 := match r with
  | none => -1
  | some j => nI (f + j)
theorem pd_lt {f : Nat} (hf : f < 2 ^ 31) : nI f - nI 1 < nI f := by
  cases f with
  | zero => decide
  | succ k => rw [show nI (k + 1) - nI 1 = nI k from nI_pred k]; exact (nI_ltI (by omega) hf).mpr (by omega)
theorem mUp_lt {ds : Nat → Int32} {f i j : Nat} (h : mUp ds f i = some j) : j < i := by
  unfold mUp at h
  split at h
  · cases h
  · exact (la_lt h).1
def mRow (rw : Nat → Nat) (cd : Nat → Int64) (e : Nat) (co : Int64) : Option Nat := la (fun k => decide (cd (40 * e + k) = co)) (rw e)
theorem la_or (P : Nat → Bool) (k : Nat) : (la P (k + 1)).isSome = (P k || (la P k).isSome) := by
  rw [la_s]; cases P k <;> rfl
def mNt (nE : Nat → Int32) (nC : Nat → Int64) (nK : Nat → Int32) (nO : Nat → Int64) (e : Int32) (co : Int64) (kd : Int32) (oo : Int64) (k : Nat) : Bool := decide (nE k = e) && (decide (nC k = co) && (decide (nK k = kd) && decide (nO k = oo)))
def mLk (lF : Nat → Int32) (lC : Nat → Int64) (lT : Nat → Int32) (a : Int32) (co : Int64) (b : Int32) (k : Nat) : Bool := decide (lF k = a) && (decide (lC k = co) && decide (lT k = b))
def mLt (lF : Nat → Int32) (lT : Nat → Int32) (lO : Nat → Int64) (a b : Int32) (oo : Int64) (k : Nat) : Bool := decide (lF k = a) && (decide (lT k = b) && decide (lO k = oo))
def mOf (rw : Nat → Nat) (cd : Nat → Int64) (a : Int32) (co : Int64) (b : Int32) : Bool := edOk a b && (mRow rw cd a.toNatClampNeg co).isSome
theorem mOf_n {rw : Nat → Nat} {cd : Nat → Int64} {k : Nat} (h : k < 3) (co : Int64) (b : Int32) : mOf rw cd (nI k) co b = (edOk (nI k) b && (mRow rw cd k co).isSome) := by
  rw [mOf, nI_clamp (by omega)]
def mBl (ds : Nat → Int32) (f n i : Nat) : Nat := ct (fun j => decide (mUp ds f j = some i)) (n - (i + 1)) (i + 1) 0
def mHas (wd : Nat → Int64) (p n : Nat) (w : Int64) : Bool := (la (fun j => decide (wd (4 * p + j) = w)) n).isSome
set_option maxHeartbeats 4000000 in
set_option maxRecDepth 100000 in
theorem cM_thrown (l : Launch) (nx : Nat) (M : xH) (a : Nat) (th : Int32) (sg : Nat → Int32) (sn pr : Nat) (fk fp : Int32) (rws : Nat → Int32) (cd : Nat → Int64) (ds wc : Nat → Int32) (wd : Nat → Int64) (nn : Nat) (nE : Nat → Int32) (nC : Nat → Int64) (nK : Nat → Int32) (nO : Nat → Int64) (ln : Nat) (lF : Nat → Int32) (lC : Nat → Int64) (lT : Nat → Int32) (lO : Nat → Int64) (fn : Nat) (fC : Nat → Int64) (fP : Nat → Int32) (ak : Nat → Int64) (ac : Nat) (pt : Nat → Int32) (hT : mAt M a th sg sn pr fk fp rws cd ds wc wd nn nE nC nK nO ln lF lC lT lO fn fC fP ak ac pt) : xC l xcl yM_thrown (xw (Cond.code yM_thrown bM_thrown 1 (some .int))) ({ frames := 0, cells := 0, slots := 0, locals := 0 } : Room) [.ref (a)] nx M (x_is (some (.int (th))) nx M) := by
  obtain ⟨h0, h1, h2, h3, h4, h5, h6, h7, h8, h9, h10, h11, h12, h13, h14, h15, h16, h17, h18, b1, b2, b3, b4, b5, b6⟩ := id hT
  refine yC (by decide) (Nat.le_of_ble_eq_true rfl) ?_
  intro p e s m args below meth c D F hr hn
  refine x_aload_n F 0 dM_thrown_0 rfl rfl ?_
  refine x_get (ci := 6) F 0 (x_in inM) rfl (by decide) (x_m kfM_69) dM_thrown_1 h0 rfl ?_
  exact x_iret F hr dM_thrown_4 (x_is_i _ _ _)
set_option maxHeartbeats 4000000 in
set_option maxRecDepth 100000 in
theorem cM_refuse (l : Launch) (nx : Nat) (M : xH) (a : Nat) (th : Int32) (sg : Nat → Int32) (sn pr : Nat) (fk fp : Int32) (rws : Nat → Int32) (cd : Nat → Int64) (ds wc : Nat → Int32) (wd : Nat → Int64) (nn : Nat) (nE : Nat → Int32) (nC : Nat → Int64) (nK : Nat → Int32) (nO : Nat → Int64) (ln : Nat) (lF : Nat → Int32) (lC : Nat → Int64) (lT : Nat → Int32) (lO : Nat → Int64) (fn : Nat) (fC : Nat → Int64) (fP : Nat → Int32) (ak : Nat → Int64) (ac : Nat) (pt : Nat → Int32) (hT : mAt M a th sg sn pr fk fp rws cd ds wc wd nn nE nC nK nO ln lF lC lT lO fn fC fP ak ac pt) (ww : Int32) : xC l xcl yM_refuse (xw (Cond.code yM_refuse bM_refuse 2 (some .int))) ({ frames := 0, cells := 0, slots := 0, locals := 0 } : Room) [.ref (a), .int (ww)] nx M (mPost (some (.int (nI 0))) nx M a (ww) sg sn pr fk fp rws cd ds wc wd nn nE nC nK nO ln lF lC lT lO fn fC fP ak ac pt) := by
  obtain ⟨h0, h1, h2, h3, h4, h5, h6, h7, h8, h9, h10, h11, h12, h13, h14, h15, h16, h17, h18, b1, b2, b3, b4, b5, b6⟩ := id hT
  refine yC (by decide) (Nat.le_of_ble_eq_true rfl) ?_
  intro p e s m args below meth c D F hr hn
  refine x_aload_n F 0 dM_refuse_0 rfl rfl ?_
  refine x_iload_n F 1 dM_refuse_1 rfl rfl ?_
  refine x_put (ci := 6) (ty := .int) F 0 (x_in inM) tM tM_ok nM rfl (by decide) (x_m kfM_69) dM_refuse_2 rfl (by decide +kernel) rfl rfl h0 (Nat.le_of_ble_eq_true rfl) ?_
  show xW p l e ({ frames := 0, cells := 0, slots := 0, locals := 0 } : Room) s m args below meth c D xcl (x_A M nx) 2 (MQ below (x_Q D xcl (x_A M nx) (mPost (some (.int (nI 0))) nx M a (ww) sg sn pr fk fp rws cd ds wc wd nn nE nC nK nO ln lF lC lT lO fn fC fP ak ac pt)) args s 0 0 (x_A M nx)) 0 0 (nx) (x_up M (a) (.inr (6, [.int (ww), .ref (a + 1), .int (nI (sn)), .int (nI (pr)), .int (fk), .int (fp), .ref (a + 2), .ref (a + 3), .ref (a + 4), .ref (a + 5), .ref (a + 6), .int (nI (nn)), .ref (a + 7), .ref (a + 8), .ref (a + 9), .ref (a + 10), .int (nI (ln)), .ref (a + 11), .ref (a + 12), .ref (a + 13), .ref (a + 14), .int (nI (fn)), .ref (a + 15), .ref (a + 16), .ref (a + 17), .int (nI (ac)), .ref (a + 18)]))) 5 [(0, .ref (a)), (1, .int (ww))] []
  refine x_iconst F (v := nI (0)) dM_refuse_5 (by decide) ?_
  exact x_iret F hr dM_refuse_6 (⟨rfl, rfl, ⟨x_up_s, (x_up_k h1 (by omega)), (x_up_k h2 (by omega)), (x_up_k h3 (by omega)), (x_up_k h4 (by omega)), (x_up_k h5 (by omega)), (x_up_k h6 (by omega)), (x_up_k h7 (by omega)), (x_up_k h8 (by omega)), (x_up_k h9 (by omega)), (x_up_k h10 (by omega)), (x_up_k h11 (by omega)), (x_up_k h12 (by omega)), (x_up_k h13 (by omega)), (x_up_k h14 (by omega)), (x_up_k h15 (by omega)), (x_up_k h16 (by omega)), (x_up_k h17 (by omega)), (x_up_k h18 (by omega)), by omega, by omega, by omega, by omega, by omega, by omega⟩, fun b hb => (x_up_n (by omega)).trans (rfl)⟩)
set_option maxHeartbeats 4000000 in
set_option maxRecDepth 100000 in
theorem cM_fails (l : Launch) (nx : Nat) (M : xH) (a : Nat) (th : Int32) (sg : Nat → Int32) (sn pr : Nat) (fk fp : Int32) (rws : Nat → Int32) (cd : Nat → Int64) (ds wc : Nat → Int32) (wd : Nat → Int64) (nn : Nat) (nE : Nat → Int32) (nC : Nat → Int64) (nK : Nat → Int32) (nO : Nat → Int64) (ln : Nat) (lF : Nat → Int32) (lC : Nat → Int64) (lT : Nat → Int32) (lO : Nat → Int64) (fn : Nat) (fC : Nat → Int64) (fP : Nat → Int32) (ak : Nat → Int64) (ac : Nat) (pt : Nat → Int32) (hT : mAt M a th sg sn pr fk fp rws cd ds wc wd nn nE nC nK nO ln lF lC lT lO fn fC fP ak ac pt) (w1 w2 : Int32) : xC l xcl yM_fails (xw (Cond.code yM_fails bM_fails 3 (some .boolean))) ({ frames := 0, cells := 0, slots := 0, locals := 0 } : Room) [.ref (a), .int (w1), .int (w2)] nx M (mPost (some (.int (nI 0))) nx M a th sg sn pr (w1) (w2) rws cd ds wc wd nn nE nC nK nO ln lF lC lT lO fn fC fP ak ac pt) := by
  obtain ⟨h0, h1, h2, h3, h4, h5, h6, h7, h8, h9, h10, h11, h12, h13, h14, h15, h16, h17, h18, b1, b2, b3, b4, b5, b6⟩ := id hT
  refine yC (by decide) (Nat.le_of_ble_eq_true rfl) ?_
  intro p e s m args below meth c D F hr hn
  refine x_aload_n F 0 dM_fails_0 rfl rfl ?_
  refine x_iload_n F 1 dM_fails_1 rfl rfl ?_
  refine x_put (ci := 6) (ty := .int) F 4 (x_in inM) tM tM_ok nM rfl (by decide) (x_m kfM_86) dM_fails_2 rfl (by decide +kernel) rfl rfl h0 (Nat.le_of_ble_eq_true rfl) ?_
  show xW p l e ({ frames := 0, cells := 0, slots := 0, locals := 0 } : Room) s m args below meth c D xcl (x_A M nx) 3 (MQ below (x_Q D xcl (x_A M nx) (mPost (some (.int (nI 0))) nx M a th sg sn pr (w1) (w2) rws cd ds wc wd nn nE nC nK nO ln lF lC lT lO fn fC fP ak ac pt)) args s 0 0 (x_A M nx)) 0 0 (nx) (x_up M (a) (.inr (6, [.int (th), .ref (a + 1), .int (nI (sn)), .int (nI (pr)), .int (w1), .int (fp), .ref (a + 2), .ref (a + 3), .ref (a + 4), .ref (a + 5), .ref (a + 6), .int (nI (nn)), .ref (a + 7), .ref (a + 8), .ref (a + 9), .ref (a + 10), .int (nI (ln)), .ref (a + 11), .ref (a + 12), .ref (a + 13), .ref (a + 14), .int (nI (fn)), .ref (a + 15), .ref (a + 16), .ref (a + 17), .int (nI (ac)), .ref (a + 18)]))) 5 [(0, .ref (a)), (1, .int (w1)), (2, .int (w2))] []
  refine x_aload_n F 0 dM_fails_5 rfl rfl ?_
  refine x_iload_n F 2 dM_fails_6 rfl rfl ?_
  refine x_put (ci := 6) (ty := .int) F 5 (x_in inM) tM tM_ok nM rfl (by decide) (x_m kfM_13) dM_fails_7 rfl (by decide +kernel) rfl rfl x_up_s (Nat.le_of_ble_eq_true rfl) ?_
  show xW p l e ({ frames := 0, cells := 0, slots := 0, locals := 0 } : Room) s m args below meth c D xcl (x_A M nx) 3 (MQ below (x_Q D xcl (x_A M nx) (mPost (some (.int (nI 0))) nx M a th sg sn pr (w1) (w2) rws cd ds wc wd nn nE nC nK nO ln lF lC lT lO fn fC fP ak ac pt)) args s 0 0 (x_A M nx)) 0 0 (nx) (x_up (x_up M (a) (.inr (6, [.int (th), .ref (a + 1), .int (nI (sn)), .int (nI (pr)), .int (w1), .int (fp), .ref (a + 2), .ref (a + 3), .ref (a + 4), .ref (a + 5), .ref (a + 6), .int (nI (nn)), .ref (a + 7), .ref (a + 8), .ref (a + 9), .ref (a + 10), .int (nI (ln)), .ref (a + 11), .ref (a + 12), .ref (a + 13), .ref (a + 14), .int (nI (fn)), .ref (a + 15), .ref (a + 16), .ref (a + 17), .int (nI (ac)), .ref (a + 18)]))) (a) (.inr (6, [.int (th), .ref (a + 1), .int (nI (sn)), .int (nI (pr)), .int (w1), .int (w2), .ref (a + 2), .ref (a + 3), .ref (a + 4), .ref (a + 5), .ref (a + 6), .int (nI (nn)), .ref (a + 7), .ref (a + 8), .ref (a + 9), .ref (a + 10), .int (nI (ln)), .ref (a + 11), .ref (a + 12), .ref (a + 13), .ref (a + 14), .int (nI (fn)), .ref (a + 15), .ref (a + 16), .ref (a + 17), .int (nI (ac)), .ref (a + 18)]))) 10 [(0, .ref (a)), (1, .int (w1)), (2, .int (w2))] []
  refine x_iconst F (v := nI (0)) dM_fails_10 (by decide) ?_
  exact x_zret F hr (by rfl) dM_fails_11 (⟨rfl, rfl, ⟨x_up_s, (x_up_k (x_up_k h1 (by omega)) (by omega)), (x_up_k (x_up_k h2 (by omega)) (by omega)), (x_up_k (x_up_k h3 (by omega)) (by omega)), (x_up_k (x_up_k h4 (by omega)) (by omega)), (x_up_k (x_up_k h5 (by omega)) (by omega)), (x_up_k (x_up_k h6 (by omega)) (by omega)), (x_up_k (x_up_k h7 (by omega)) (by omega)), (x_up_k (x_up_k h8 (by omega)) (by omega)), (x_up_k (x_up_k h9 (by omega)) (by omega)), (x_up_k (x_up_k h10 (by omega)) (by omega)), (x_up_k (x_up_k h11 (by omega)) (by omega)), (x_up_k (x_up_k h12 (by omega)) (by omega)), (x_up_k (x_up_k h13 (by omega)) (by omega)), (x_up_k (x_up_k h14 (by omega)) (by omega)), (x_up_k (x_up_k h15 (by omega)) (by omega)), (x_up_k (x_up_k h16 (by omega)) (by omega)), (x_up_k (x_up_k h17 (by omega)) (by omega)), (x_up_k (x_up_k h18 (by omega)) (by omega)), by omega, by omega, by omega, by omega, by omega, by omega⟩, fun b hb => (x_up_n (by omega)).trans ((x_up_n (by omega)).trans (rfl))⟩)
set_option maxHeartbeats 4000000 in
set_option maxRecDepth 100000 in
theorem cM_in (l : Launch) (nx : Nat) (M : xH) (v x y : Int32) : xC l xcl yM_in (xw (Cond.code yM_in bM_in 3 (some .boolean))) ({ frames := 0, cells := 0, slots := 0, locals := 0 } : Room) [.int (v), .int (x), .int (y)] nx M (x_is (some (.int (bI (decide (x ≤ v) && decide (v ≤ y))))) nx M) := by
  refine yC (by decide) (Nat.le_of_ble_eq_true rfl) ?_
  intro p e s m args below meth c D F hr hn
  refine x_iload_n F 0 dM_in_0 rfl rfl ?_
  refine x_iload_n F 1 dM_in_1 rfl rfl ?_
  refine x_icmp_lt F (tgt := 14) dM_in_2 (by decide) (fun c1 => ?_) (fun c1 => ?_)
  · skip
    refine x_iconst F (v := nI (0)) dM_in_14 (by decide) ?_
    exact x_zret F hr (by rfl) dM_in_15 (x_f (by rw [decide_eq_false (Int32.not_le.mpr c1), Bool.false_and]))
  · skip
    refine x_iload_n F 0 dM_in_5 rfl rfl ?_
    refine x_iload_n F 2 dM_in_6 rfl rfl ?_
    refine x_icmp_gt F (tgt := 14) dM_in_7 (by decide) (fun c2 => ?_) (fun c2 => ?_)
    · skip
      refine x_iconst F (v := nI (0)) dM_in_14 (by decide) ?_
      exact x_zret F hr (by rfl) dM_in_15 (x_f (by rw [decide_eq_false (Int32.not_le.mpr c2), Bool.and_false]))
    · skip
      refine x_iconst F (v := nI (1)) dM_in_10 (by decide) ?_
      refine x_goto F (tgt := 15) dM_in_11 (by decide) ?_
      exact x_zret F hr (by rfl) dM_in_15 (x_t (by rw [decide_eq_true (Int32.not_lt.mp c1), decide_eq_true (Int32.not_lt.mp c2)]; rfl))
set_option maxHeartbeats 4000000 in
set_option maxRecDepth 100000 in
theorem cM_inN (l : Launch) (nx : Nat) (M : xH) (v x y : Nat) (hv : v < 2 ^ 31) (hx : x < 2 ^ 31) (hy : y < 2 ^ 31) : xC l xcl yM_in (xw (Cond.code yM_in bM_in 3 (some .boolean))) ({ frames := 0, cells := 0, slots := 0, locals := 0 } : Room) [.int (nI (v)), .int (nI (x)), .int (nI (y))] nx M (x_is (some (.int (bI (decide (x ≤ v) && decide (v ≤ y))))) nx M) := by
  refine yC (by decide) (Nat.le_of_ble_eq_true rfl) ?_
  intro p e s m args below meth c D F hr hn
  refine x_iload_n F 0 dM_in_0 rfl rfl ?_
  refine x_iload_n F 1 dM_in_1 rfl rfl ?_
  refine x_icmp_lt F (tgt := 14) dM_in_2 (by decide) (fun c1 => ?_) (fun c1 => ?_)
  · skip
    have c1 : v < x := by
      exact (nI_ltI (a := v) (b := x) (by omega) (by omega)).mp c1
    refine x_iconst F (v := nI (0)) dM_in_14 (by decide) ?_
    exact x_zret F hr (by rfl) dM_in_15 (x_f (by simp; omega))
  · skip
    have c1 : x ≤ v := by
      have z : ¬ (v < x) := fun zz => c1 ((nI_ltI (a := v) (b := x) (by omega) (by omega)).mpr zz)
      omega
    refine x_iload_n F 0 dM_in_5 rfl rfl ?_
    refine x_iload_n F 2 dM_in_6 rfl rfl ?_
    refine x_icmp_gt F (tgt := 14) dM_in_7 (by decide) (fun c2 => ?_) (fun c2 => ?_)
    · skip
      have c2 : y < v := by
        exact (nI_ltI (a := y) (b := v) (by omega) (by omega)).mp c2
      refine x_iconst F (v := nI (0)) dM_in_14 (by decide) ?_
      exact x_zret F hr (by rfl) dM_in_15 (x_f (by simp; omega))
    · skip
      have c2 : v ≤ y := by
        have z : ¬ (y < v) := fun zz => c2 ((nI_ltI (a := y) (b := v) (by omega) (by omega)).mpr zz)
        omega
      refine x_iconst F (v := nI (1)) dM_in_10 (by decide) ?_
      refine x_goto F (tgt := 15) dM_in_11 (by decide) ?_
      exact x_zret F hr (by rfl) dM_in_15 (x_t (by simp; omega))
set_option maxHeartbeats 4000000 in
set_option maxRecDepth 100000 in
theorem cM_isEd (l : Launch) (nx : Nat) (M : xH) (e0 : Int32) : xC l xcl yM_isEdition (xw (Cond.code yM_isEdition bM_isEdition 1 (some .boolean))) ({ frames := 0, cells := 0, slots := 0, locals := 0 } : Room) [.int (e0)] nx M (x_is (some (.int (bI (inE e0)))) nx M) := by
  refine yC (by decide) (Nat.le_of_ble_eq_true rfl) ?_
  intro p e s m args below meth c D F hr hn
  refine x_iload_n F 0 dM_isEdition_0 rfl rfl ?_
  refine x_if_lt F (tgt := 13) dM_isEdition_1 (by decide) (fun c1 => ?_) (fun c1 => ?_)
  · skip
    refine x_iconst F (v := nI (0)) dM_isEdition_13 (by decide) ?_
    exact x_zret F hr (by rfl) dM_isEdition_14 (x_f (by simp [inE, c1]))
  · skip
    refine x_iload_n F 0 dM_isEdition_4 rfl rfl ?_
    refine x_iconst F (v := nI (3)) dM_isEdition_5 (by decide) ?_
    refine x_icmp_ge F (tgt := 13) dM_isEdition_6 (by decide) (fun c2 => ?_) (fun c2 => ?_)
    · skip
      refine x_iconst F (v := nI (0)) dM_isEdition_13 (by decide) ?_
      exact x_zret F hr (by rfl) dM_isEdition_14 (x_f (by simp [inE, c2]))
    · skip
      refine x_iconst F (v := nI (1)) dM_isEdition_9 (by decide) ?_
      refine x_goto F (tgt := 14) dM_isEdition_10 (by decide) ?_
      exact x_zret F hr (by rfl) dM_isEdition_14 (x_t (by simp [inE, c1, c2]))
set_option maxHeartbeats 4000000 in
set_option maxRecDepth 100000 in
theorem cM_isLetter (l : Launch) (nx : Nat) (M : xH) (j : Nat) (hj : j < 65536) : xC l xcl yM_isLetter (xw (Cond.code yM_isLetter bM_isLetter 1 (some .boolean))) ({ frames := 1, cells := 0, slots := 0, locals := 22 } : Room) [.int (nI (j))] nx M (x_is (some (.int (bI (let_ j)))) nx M) := by
  refine yC (by decide) (Nat.le_of_ble_eq_true rfl) ?_
  intro p e s m args below meth c D F hr hn
  refine x_iload_n F 0 dM_isLetter_0 rfl rfl ?_
  refine x_bipush F (v := nI (97)) dM_isLetter_1 (by decide) ?_
  refine x_bipush F (v := nI (122)) dM_isLetter_3 (by decide) ?_
  refine yS (n := 3) (As := [.int (nI (j)), .int (nI (97)), .int (nI (122))]) F kmM_72 ktM_in knM kcM_in (by decide +kernel) dM_isLetter_5 (cM_inN l (nx) M (j) (97) (122) (by omega) (by omega) (by omega)) rfl rfl (Nat.le_of_ble_eq_true rfl) ⟨Nat.le_of_ble_eq_true rfl, Nat.le_of_ble_eq_true rfl⟩ ⟨Nat.le_of_ble_eq_true rfl, Nat.le_of_ble_eq_true rfl⟩ ?_
  exact x_zret F hr (bI_nar _) dM_isLetter_8 (x_is_i _ _ _)
set_option maxHeartbeats 4000000 in
set_option maxRecDepth 100000 in
theorem cM_isLetterI (l : Launch) (nx : Nat) (M : xH) (i : Int32) : xC l xcl yM_isLetter (xw (Cond.code yM_isLetter bM_isLetter 1 (some .boolean))) ({ frames := 1, cells := 0, slots := 0, locals := 22 } : Room) [.int (i)] nx M (x_is (some (.int (bI (decide (nI 97 ≤ i) && decide (i ≤ nI 122))))) nx M) := by
  refine yC (by decide) (Nat.le_of_ble_eq_true rfl) ?_
  intro p e s m args below meth c D F hr hn
  refine x_iload_n F 0 dM_isLetter_0 rfl rfl ?_
  refine x_bipush F (v := nI (97)) dM_isLetter_1 (by decide) ?_
  refine x_bipush F (v := nI (122)) dM_isLetter_3 (by decide) ?_
  refine yS (n := 3) (As := [.int (i), .int (nI (97)), .int (nI (122))]) F kmM_72 ktM_in knM kcM_in (by decide +kernel) dM_isLetter_5 (cM_in l (nx) M (i) (nI (97)) (nI (122))) rfl rfl (Nat.le_of_ble_eq_true rfl) ⟨Nat.le_of_ble_eq_true rfl, Nat.le_of_ble_eq_true rfl⟩ ⟨Nat.le_of_ble_eq_true rfl, Nat.le_of_ble_eq_true rfl⟩ ?_
  exact x_zret F hr (bI_nar _) dM_isLetter_8 (x_is_i _ _ _)
set_option maxHeartbeats 4000000 in
set_option maxRecDepth 100000 in
theorem cM_isDigit (l : Launch) (nx : Nat) (M : xH) (j : Nat) (hj : j < 65536) : xC l xcl yM_isDigit (xw (Cond.code yM_isDigit bM_isDigit 1 (some .boolean))) ({ frames := 1, cells := 0, slots := 0, locals := 22 } : Room) [.int (nI (j))] nx M (x_is (some (.int (bI (dig j)))) nx M) := by
  refine yC (by decide) (Nat.le_of_ble_eq_true rfl) ?_
  intro p e s m args below meth c D F hr hn
  refine x_iload_n F 0 dM_isDigit_0 rfl rfl ?_
  refine x_bipush F (v := nI (48)) dM_isDigit_1 (by decide) ?_
  refine x_bipush F (v := nI (57)) dM_isDigit_3 (by decide) ?_
  refine yS (n := 3) (As := [.int (nI (j)), .int (nI (48)), .int (nI (57))]) F kmM_72 ktM_in knM kcM_in (by decide +kernel) dM_isDigit_5 (cM_inN l (nx) M (j) (48) (57) (by omega) (by omega) (by omega)) rfl rfl (Nat.le_of_ble_eq_true rfl) ⟨Nat.le_of_ble_eq_true rfl, Nat.le_of_ble_eq_true rfl⟩ ⟨Nat.le_of_ble_eq_true rfl, Nat.le_of_ble_eq_true rfl⟩ ?_
  exact x_zret F hr (bI_nar _) dM_isDigit_8 (x_is_i _ _ _)
set_option maxHeartbeats 4000000 in
set_option maxRecDepth 100000 in
theorem cM_isDigitI (l : Launch) (nx : Nat) (M : xH) (i : Int32) : xC l xcl yM_isDigit (xw (Cond.code yM_isDigit bM_isDigit 1 (some .boolean))) ({ frames := 1, cells := 0, slots := 0, locals := 22 } : Room) [.int (i)] nx M (x_is (some (.int (bI (decide (nI 48 ≤ i) && decide (i ≤ nI 57))))) nx M) := by
  refine yC (by decide) (Nat.le_of_ble_eq_true rfl) ?_
  intro p e s m args below meth c D F hr hn
  refine x_iload_n F 0 dM_isDigit_0 rfl rfl ?_
  refine x_bipush F (v := nI (48)) dM_isDigit_1 (by decide) ?_
  refine x_bipush F (v := nI (57)) dM_isDigit_3 (by decide) ?_
  refine yS (n := 3) (As := [.int (i), .int (nI (48)), .int (nI (57))]) F kmM_72 ktM_in knM kcM_in (by decide +kernel) dM_isDigit_5 (cM_in l (nx) M (i) (nI (48)) (nI (57))) rfl rfl (Nat.le_of_ble_eq_true rfl) ⟨Nat.le_of_ble_eq_true rfl, Nat.le_of_ble_eq_true rfl⟩ ⟨Nat.le_of_ble_eq_true rfl, Nat.le_of_ble_eq_true rfl⟩ ?_
  exact x_zret F hr (bI_nar _) dM_isDigit_8 (x_is_i _ _ _)
set_option maxHeartbeats 4000000 in
set_option maxRecDepth 100000 in
theorem cM_run0 (l : Launch) (nx : Nat) (M : xH) (a : Nat) (th : Int32) (sg : Nat → Int32) (sn pr : Nat) (fk fp : Int32) (rws : Nat → Int32) (cd : Nat → Int64) (ds wc : Nat → Int32) (wd : Nat → Int64) (nn : Nat) (nE : Nat → Int32) (nC : Nat → Int64) (nK : Nat → Int32) (nO : Nat → Int64) (ln : Nat) (lF : Nat → Int32) (lC : Nat → Int64) (lT : Nat → Int32) (lO : Nat → Int64) (fn : Nat) (fC : Nat → Int64) (fP : Nat → Int32) (ak : Nat → Int64) (ac : Nat) (pt : Nat → Int32) (hT : mAt M a th sg sn pr fk fp rws cd ds wc wd nn nE nC nK nO ln lF lC lT lO fn fC fP ak ac pt) (tx : Nat → Nat) (hX : sAt sg tx sn) (q : Nat) (hq : q ≤ sn) : xC l xcl yM_run (xw (Cond.code yM_run bM_run 4 (some .int))) ({ frames := 0, cells := 0, slots := 0, locals := 0 } : Room) [.ref (a), .int (nI (q)), .int (nI (0))] nx M (x_is (some (.int (nI (rn (fun c => decide (c = 45)) tx (sn - q) q)))) nx M) := by
  obtain ⟨h0, h1, h2, h3, h4, h5, h6, h7, h8, h9, h10, h11, h12, h13, h14, h15, h16, h17, h18, b1, b2, b3, b4, b5, b6⟩ := id hT
  refine yC (by decide) (Nat.le_of_ble_eq_true rfl) ?_
  intro p e s m args below meth c D F hr hn
  have loop : ∀ (k : Nat) (i : Nat), i + k = sn - q → rn (fun c => decide (c = 45)) tx (sn - q) q = i + rn (fun c => decide (c = 45)) tx k (q + i) → xW p l e ({ frames := 0, cells := 0, slots := 0, locals := 0 } : Room) s m args below meth c D xcl (x_A M nx) 4 (MQ below (x_Q D xcl (x_A M nx) (x_is (some (.int (nI (rn (fun c => decide (c = 45)) tx (sn - q) q)))) nx M)) args s 0 0 (x_A M nx)) 0 0 (nx) M 2 [(3, .int (nI (i))), (0, .ref (a)), (1, .int (nI (q))), (2, .int (nI (0)))] [] := by
    intro k
    induction k with
    | zero =>
      intro i hi hf
      refine x_iload_n F 2 dM_run_2 rfl rfl ?_
      refine x_iload_n F 0 dM_run_3 rfl rfl ?_
      refine x_iadd F dM_run_4 ?_
      refine xW.toi (nI (q + i)) (nI_add _ _) ?_
      refine x_aload_n F 1 dM_run_5 rfl rfl ?_
      refine x_get (ci := 6) F 2 (x_in inM) rfl (by decide) (x_m kfM_83) dM_run_6 h0 rfl ?_
      refine x_icmp_ge F (tgt := 74) dM_run_9 (by decide) (fun c1 => ?_) (fun c1 => ?_)
      · skip
        have c1 : sn ≤ q + i := by
          exact (nI_leI (a := sn) (b := q + i) (by omega) (by omega)).mp c1
        refine x_iload_n F 0 dM_run_74 rfl rfl ?_
        exact x_iret F hr dM_run_75 (x_e (by rw [hf]; rfl))
      · skip
        have c1 : q + i < sn := by
          have z : ¬ (sn ≤ q + i) := fun zz => c1 ((nI_leI (a := sn) (b := q + i) (by omega) (by omega)).mpr zz)
          omega
        exact absurd c1 (by omega)
    | succ k ih =>
      intro i hi hf
      refine x_iload_n F 2 dM_run_2 rfl rfl ?_
      refine x_iload_n F 0 dM_run_3 rfl rfl ?_
      refine x_iadd F dM_run_4 ?_
      refine xW.toi (nI (q + i)) (nI_add _ _) ?_
      refine x_aload_n F 1 dM_run_5 rfl rfl ?_
      refine x_get (ci := 6) F 2 (x_in inM) rfl (by decide) (x_m kfM_83) dM_run_6 h0 rfl ?_
      refine x_icmp_ge F (tgt := 74) dM_run_9 (by decide) (fun c2 => ?_) (fun c2 => ?_)
      · skip
        have c2 : sn ≤ q + i := by
          exact (nI_leI (a := sn) (b := q + i) (by omega) (by omega)).mp c2
        exact absurd c2 (by omega)
      · skip
        have c2 : q + i < sn := by
          have z : ¬ (sn ≤ q + i) := fun zz => c2 ((nI_leI (a := sn) (b := q + i) (by omega) (by omega)).mpr zz)
          omega
        refine x_iload_n F 3 dM_run_12 rfl rfl ?_
        refine x_if_ne F (tgt := 32) dM_run_13 (by decide) (fun c3 => ?_) (fun c3 => ?_)
        · skip
          have c3 : 0 ≠ 0 := by
            have z : ¬ (0 = 0) := fun zz => c3 ((nI_eq (a := 0) (b := 0) (by omega) (by omega)).mpr zz)
            omega
          exact absurd c3 (by decide)
        · skip
          have c3 : 0 = 0 := by
            exact (nI_eq (a := 0) (b := 0) (by omega) (by omega)).mp c3
          refine x_aload_n F 1 dM_run_16 rfl rfl ?_
          refine x_get (ci := 6) F 1 (x_in inM) rfl (by decide) (x_m kfM_7) dM_run_17 h0 rfl ?_
          refine x_iload_n F 2 dM_run_20 rfl rfl ?_
          refine x_iload_n F 0 dM_run_21 rfl rfl ?_
          refine x_iadd F dM_run_22 ?_
          refine xW.toi (nI (q + i)) (nI_add _ _) ?_
          refine x_iald F dM_run_23 h1 (pk_in (q + i) (400) (by omega)) ?_
          refine xW.toi (nI (tx (q + i))) (by rw [nI_clamp (by omega)]; exact (hX _ (by omega)).1) ?_
          have htx := (hX (q + i) (by omega)).2
          refine x_bipush F (v := nI (45)) dM_run_24 (by decide) ?_
          refine x_icmp_ne F (tgt := 74) dM_run_26 (by decide) (fun c4 => ?_) (fun c4 => ?_)
          · skip
            have c4 : tx (q + i) ≠ 45 := by
              have z : ¬ (tx (q + i) = 45) := fun zz => c4 ((nI_eq (a := tx (q + i)) (b := 45) (by omega) (by omega)).mpr zz)
              omega
            refine x_iload_n F 0 dM_run_74 rfl rfl ?_
            exact x_iret F hr dM_run_75 (x_e (by rw [hf, rn_s, if_neg (by simpa using c4)]; rfl))
          · skip
            have c4 : tx (q + i) = 45 := by
              exact (nI_eq (a := tx (q + i)) (b := 45) (by omega) (by omega)).mp c4
            refine x_goto F (tgt := 68) dM_run_29 (by decide) ?_
            refine x_iinc F 0 [(3, .int (nI (i + 1))), (0, .ref (a)), (1, .int (nI (q))), (2, .int (nI (0)))] dM_run_68 rfl (nI_add (i) 1) (by decide) rfl ?_
            refine x_goto F (tgt := 2) dM_run_71 (by decide) ?_
            exact ih (i + 1) (by omega) (by rw [hf, rn_s, if_pos (by simpa using c4)]; show i + (rn (fun c => decide (c = 45)) tx k (q + i + 1) + 1) = i + 1 + rn (fun c => decide (c = 45)) tx k (q + i + 1); omega)
  refine x_iconst F (v := nI (0)) dM_run_0 (by decide) ?_
  refine x_istore_n F [(3, .int (nI (0))), (0, .ref (a)), (1, .int (nI (q))), (2, .int (nI (0)))] dM_run_1 rfl (by decide) rfl ?_
  exact loop (sn - q) 0 (by omega) (by rw [Nat.zero_add]; rfl)
set_option maxHeartbeats 4000000 in
set_option maxRecDepth 100000 in
theorem cM_run1 (l : Launch) (nx : Nat) (M : xH) (a : Nat) (th : Int32) (sg : Nat → Int32) (sn pr : Nat) (fk fp : Int32) (rws : Nat → Int32) (cd : Nat → Int64) (ds wc : Nat → Int32) (wd : Nat → Int64) (nn : Nat) (nE : Nat → Int32) (nC : Nat → Int64) (nK : Nat → Int32) (nO : Nat → Int64) (ln : Nat) (lF : Nat → Int32) (lC : Nat → Int64) (lT : Nat → Int32) (lO : Nat → Int64) (fn : Nat) (fC : Nat → Int64) (fP : Nat → Int32) (ak : Nat → Int64) (ac : Nat) (pt : Nat → Int32) (hT : mAt M a th sg sn pr fk fp rws cd ds wc wd nn nE nC nK nO ln lF lC lT lO fn fC fP ak ac pt) (tx : Nat → Nat) (hX : sAt sg tx sn) (q : Nat) (hq : q ≤ sn) : xC l xcl yM_run (xw (Cond.code yM_run bM_run 4 (some .int))) ({ frames := 2, cells := 0, slots := 0, locals := 42 } : Room) [.ref (a), .int (nI (q)), .int (nI (1))] nx M (x_is (some (.int (nI (rn dig tx (sn - q) q)))) nx M) := by
  obtain ⟨h0, h1, h2, h3, h4, h5, h6, h7, h8, h9, h10, h11, h12, h13, h14, h15, h16, h17, h18, b1, b2, b3, b4, b5, b6⟩ := id hT
  refine yC (by decide) (Nat.le_of_ble_eq_true rfl) ?_
  intro p e s m args below meth c D F hr hn
  have loop : ∀ (k : Nat) (i : Nat), i + k = sn - q → rn dig tx (sn - q) q = i + rn dig tx k (q + i) → xW p l e ({ frames := 2, cells := 0, slots := 0, locals := 42 } : Room) s m args below meth c D xcl (x_A M nx) 4 (MQ below (x_Q D xcl (x_A M nx) (x_is (some (.int (nI (rn dig tx (sn - q) q)))) nx M)) args s 0 0 (x_A M nx)) 0 0 (nx) M 2 [(3, .int (nI (i))), (0, .ref (a)), (1, .int (nI (q))), (2, .int (nI (1)))] [] := by
    intro k
    induction k with
    | zero =>
      intro i hi hf
      refine x_iload_n F 2 dM_run_2 rfl rfl ?_
      refine x_iload_n F 0 dM_run_3 rfl rfl ?_
      refine x_iadd F dM_run_4 ?_
      refine xW.toi (nI (q + i)) (nI_add _ _) ?_
      refine x_aload_n F 1 dM_run_5 rfl rfl ?_
      refine x_get (ci := 6) F 2 (x_in inM) rfl (by decide) (x_m kfM_83) dM_run_6 h0 rfl ?_
      refine x_icmp_ge F (tgt := 74) dM_run_9 (by decide) (fun c1 => ?_) (fun c1 => ?_)
      · skip
        have c1 : sn ≤ q + i := by
          exact (nI_leI (a := sn) (b := q + i) (by omega) (by omega)).mp c1
        refine x_iload_n F 0 dM_run_74 rfl rfl ?_
        exact x_iret F hr dM_run_75 (x_e (by rw [hf]; rfl))
      · skip
        have c1 : q + i < sn := by
          have z : ¬ (sn ≤ q + i) := fun zz => c1 ((nI_leI (a := sn) (b := q + i) (by omega) (by omega)).mpr zz)
          omega
        exact absurd c1 (by omega)
    | succ k ih =>
      intro i hi hf
      refine x_iload_n F 2 dM_run_2 rfl rfl ?_
      refine x_iload_n F 0 dM_run_3 rfl rfl ?_
      refine x_iadd F dM_run_4 ?_
      refine xW.toi (nI (q + i)) (nI_add _ _) ?_
      refine x_aload_n F 1 dM_run_5 rfl rfl ?_
      refine x_get (ci := 6) F 2 (x_in inM) rfl (by decide) (x_m kfM_83) dM_run_6 h0 rfl ?_
      refine x_icmp_ge F (tgt := 74) dM_run_9 (by decide) (fun c2 => ?_) (fun c2 => ?_)
      · skip
        have c2 : sn ≤ q + i := by
          exact (nI_leI (a := sn) (b := q + i) (by omega) (by omega)).mp c2
        exact absurd c2 (by omega)
      · skip
        have c2 : q + i < sn := by
          have z : ¬ (sn ≤ q + i) := fun zz => c2 ((nI_leI (a := sn) (b := q + i) (by omega) (by omega)).mpr zz)
          omega
        refine x_iload_n F 3 dM_run_12 rfl rfl ?_
        refine x_if_ne F (tgt := 32) dM_run_13 (by decide) (fun c3 => ?_) (fun c3 => ?_)
        · skip
          have c3 : 1 ≠ 0 := by
            have z : ¬ (1 = 0) := fun zz => c3 ((nI_eq (a := 1) (b := 0) (by omega) (by omega)).mpr zz)
            omega
          refine x_iload_n F 3 dM_run_32 rfl rfl ?_
          refine x_iconst F (v := nI (1)) dM_run_33 (by decide) ?_
          refine x_icmp_ne F (tgt := 54) dM_run_34 (by decide) (fun c4 => ?_) (fun c4 => ?_)
          · skip
            have c4 : 1 ≠ 1 := by
              have z : ¬ (1 = 1) := fun zz => c4 ((nI_eq (a := 1) (b := 1) (by omega) (by omega)).mpr zz)
              omega
            exact absurd c4 (by decide)
          · skip
            have c4 : 1 = 1 := by
              exact (nI_eq (a := 1) (b := 1) (by omega) (by omega)).mp c4
            refine x_aload_n F 1 dM_run_37 rfl rfl ?_
            refine x_get (ci := 6) F 1 (x_in inM) rfl (by decide) (x_m kfM_7) dM_run_38 h0 rfl ?_
            refine x_iload_n F 2 dM_run_41 rfl rfl ?_
            refine x_iload_n F 0 dM_run_42 rfl rfl ?_
            refine x_iadd F dM_run_43 ?_
            refine xW.toi (nI (q + i)) (nI_add _ _) ?_
            refine x_iald F dM_run_44 h1 (pk_in (q + i) (400) (by omega)) ?_
            refine xW.toi (nI (tx (q + i))) (by rw [nI_clamp (by omega)]; exact (hX _ (by omega)).1) ?_
            have htx := (hX (q + i) (by omega)).2
            refine yS (n := 1) (As := [.int (nI (tx (q + i)))]) F kmM_80 ktM_isDigit knM kcM_isDigit (by decide +kernel) dM_run_45 (cM_isDigit l (nx) M (tx (q + i)) (by omega)) rfl rfl (Nat.le_of_ble_eq_true rfl) ⟨Nat.le_of_ble_eq_true rfl, Nat.le_of_ble_eq_true rfl⟩ ⟨Nat.le_of_ble_eq_true rfl, Nat.le_of_ble_eq_true rfl⟩ ?_
            refine x_if_eq F (tgt := 74) dM_run_48 (by decide) (fun c5 => ?_) (fun c5 => ?_)
            · skip
              have c5 : (dig (tx (q + i))) = false := bI_0 c5
              refine x_iload_n F 0 dM_run_74 rfl rfl ?_
              exact x_iret F hr dM_run_75 (x_e (by rw [hf, rn_s, if_neg (by simpa using c5)]; rfl))
            · skip
              have c5 : (dig (tx (q + i))) = true := bI_1 c5
              refine x_goto F (tgt := 68) dM_run_51 (by decide) ?_
              refine x_iinc F 0 [(3, .int (nI (i + 1))), (0, .ref (a)), (1, .int (nI (q))), (2, .int (nI (1)))] dM_run_68 rfl (nI_add (i) 1) (by decide) rfl ?_
              refine x_goto F (tgt := 2) dM_run_71 (by decide) ?_
              exact ih (i + 1) (by omega) (by rw [hf, rn_s, if_pos (by simpa using c5)]; show i + (rn dig tx k (q + i + 1) + 1) = i + 1 + rn dig tx k (q + i + 1); omega)
        · skip
          have c3 : 1 = 0 := by
            exact (nI_eq (a := 1) (b := 0) (by omega) (by omega)).mp c3
          exact absurd c3 (by decide)
  refine x_iconst F (v := nI (0)) dM_run_0 (by decide) ?_
  refine x_istore_n F [(3, .int (nI (0))), (0, .ref (a)), (1, .int (nI (q))), (2, .int (nI (1)))] dM_run_1 rfl (by decide) rfl ?_
  exact loop (sn - q) 0 (by omega) (by rw [Nat.zero_add]; rfl)
set_option maxHeartbeats 4000000 in
set_option maxRecDepth 100000 in
theorem cM_run2 (l : Launch) (nx : Nat) (M : xH) (a : Nat) (th : Int32) (sg : Nat → Int32) (sn pr : Nat) (fk fp : Int32) (rws : Nat → Int32) (cd : Nat → Int64) (ds wc : Nat → Int32) (wd : Nat → Int64) (nn : Nat) (nE : Nat → Int32) (nC : Nat → Int64) (nK : Nat → Int32) (nO : Nat → Int64) (ln : Nat) (lF : Nat → Int32) (lC : Nat → Int64) (lT : Nat → Int32) (lO : Nat → Int64) (fn : Nat) (fC : Nat → Int64) (fP : Nat → Int32) (ak : Nat → Int64) (ac : Nat) (pt : Nat → Int32) (hT : mAt M a th sg sn pr fk fp rws cd ds wc wd nn nE nC nK nO ln lF lC lT lO fn fC fP ak ac pt) (tx : Nat → Nat) (hX : sAt sg tx sn) (q : Nat) (hq : q ≤ sn) : xC l xcl yM_run (xw (Cond.code yM_run bM_run 4 (some .int))) ({ frames := 2, cells := 0, slots := 0, locals := 42 } : Room) [.ref (a), .int (nI (q)), .int (nI (2))] nx M (x_is (some (.int (nI (rn let_ tx (sn - q) q)))) nx M) := by
  obtain ⟨h0, h1, h2, h3, h4, h5, h6, h7, h8, h9, h10, h11, h12, h13, h14, h15, h16, h17, h18, b1, b2, b3, b4, b5, b6⟩ := id hT
  refine yC (by decide) (Nat.le_of_ble_eq_true rfl) ?_
  intro p e s m args below meth c D F hr hn
  have loop : ∀ (k : Nat) (i : Nat), i + k = sn - q → rn let_ tx (sn - q) q = i + rn let_ tx k (q + i) → xW p l e ({ frames := 2, cells := 0, slots := 0, locals := 42 } : Room) s m args below meth c D xcl (x_A M nx) 4 (MQ below (x_Q D xcl (x_A M nx) (x_is (some (.int (nI (rn let_ tx (sn - q) q)))) nx M)) args s 0 0 (x_A M nx)) 0 0 (nx) M 2 [(3, .int (nI (i))), (0, .ref (a)), (1, .int (nI (q))), (2, .int (nI (2)))] [] := by
    intro k
    induction k with
    | zero =>
      intro i hi hf
      refine x_iload_n F 2 dM_run_2 rfl rfl ?_
      refine x_iload_n F 0 dM_run_3 rfl rfl ?_
      refine x_iadd F dM_run_4 ?_
      refine xW.toi (nI (q + i)) (nI_add _ _) ?_
      refine x_aload_n F 1 dM_run_5 rfl rfl ?_
      refine x_get (ci := 6) F 2 (x_in inM) rfl (by decide) (x_m kfM_83) dM_run_6 h0 rfl ?_
      refine x_icmp_ge F (tgt := 74) dM_run_9 (by decide) (fun c1 => ?_) (fun c1 => ?_)
      · skip
        have c1 : sn ≤ q + i := by
          exact (nI_leI (a := sn) (b := q + i) (by omega) (by omega)).mp c1
        refine x_iload_n F 0 dM_run_74 rfl rfl ?_
        exact x_iret F hr dM_run_75 (x_e (by rw [hf]; rfl))
      · skip
        have c1 : q + i < sn := by
          have z : ¬ (sn ≤ q + i) := fun zz => c1 ((nI_leI (a := sn) (b := q + i) (by omega) (by omega)).mpr zz)
          omega
        exact absurd c1 (by omega)
    | succ k ih =>
      intro i hi hf
      refine x_iload_n F 2 dM_run_2 rfl rfl ?_
      refine x_iload_n F 0 dM_run_3 rfl rfl ?_
      refine x_iadd F dM_run_4 ?_
      refine xW.toi (nI (q + i)) (nI_add _ _) ?_
      refine x_aload_n F 1 dM_run_5 rfl rfl ?_
      refine x_get (ci := 6) F 2 (x_in inM) rfl (by decide) (x_m kfM_83) dM_run_6 h0 rfl ?_
      refine x_icmp_ge F (tgt := 74) dM_run_9 (by decide) (fun c2 => ?_) (fun c2 => ?_)
      · skip
        have c2 : sn ≤ q + i := by
          exact (nI_leI (a := sn) (b := q + i) (by omega) (by omega)).mp c2
        exact absurd c2 (by omega)
      · skip
        have c2 : q + i < sn := by
          have z : ¬ (sn ≤ q + i) := fun zz => c2 ((nI_leI (a := sn) (b := q + i) (by omega) (by omega)).mpr zz)
          omega
        refine x_iload_n F 3 dM_run_12 rfl rfl ?_
        refine x_if_ne F (tgt := 32) dM_run_13 (by decide) (fun c3 => ?_) (fun c3 => ?_)
        · skip
          have c3 : 2 ≠ 0 := by
            have z : ¬ (2 = 0) := fun zz => c3 ((nI_eq (a := 2) (b := 0) (by omega) (by omega)).mpr zz)
            omega
          refine x_iload_n F 3 dM_run_32 rfl rfl ?_
          refine x_iconst F (v := nI (1)) dM_run_33 (by decide) ?_
          refine x_icmp_ne F (tgt := 54) dM_run_34 (by decide) (fun c4 => ?_) (fun c4 => ?_)
          · skip
            have c4 : 2 ≠ 1 := by
              have z : ¬ (2 = 1) := fun zz => c4 ((nI_eq (a := 2) (b := 1) (by omega) (by omega)).mpr zz)
              omega
            refine x_aload_n F 1 dM_run_54 rfl rfl ?_
            refine x_get (ci := 6) F 1 (x_in inM) rfl (by decide) (x_m kfM_7) dM_run_55 h0 rfl ?_
            refine x_iload_n F 2 dM_run_58 rfl rfl ?_
            refine x_iload_n F 0 dM_run_59 rfl rfl ?_
            refine x_iadd F dM_run_60 ?_
            refine xW.toi (nI (q + i)) (nI_add _ _) ?_
            refine x_iald F dM_run_61 h1 (pk_in (q + i) (400) (by omega)) ?_
            refine xW.toi (nI (tx (q + i))) (by rw [nI_clamp (by omega)]; exact (hX _ (by omega)).1) ?_
            have htx := (hX (q + i) (by omega)).2
            refine yS (n := 1) (As := [.int (nI (tx (q + i)))]) F kmM_76 ktM_isLetter knM kcM_isLetter (by decide +kernel) dM_run_62 (cM_isLetter l (nx) M (tx (q + i)) (by omega)) rfl rfl (Nat.le_of_ble_eq_true rfl) ⟨Nat.le_of_ble_eq_true rfl, Nat.le_of_ble_eq_true rfl⟩ ⟨Nat.le_of_ble_eq_true rfl, Nat.le_of_ble_eq_true rfl⟩ ?_
            refine x_if_eq F (tgt := 74) dM_run_65 (by decide) (fun c5 => ?_) (fun c5 => ?_)
            · skip
              have c5 : (let_ (tx (q + i))) = false := bI_0 c5
              refine x_iload_n F 0 dM_run_74 rfl rfl ?_
              exact x_iret F hr dM_run_75 (x_e (by rw [hf, rn_s, if_neg (by simpa using c5)]; rfl))
            · skip
              have c5 : (let_ (tx (q + i))) = true := bI_1 c5
              refine x_iinc F 0 [(3, .int (nI (i + 1))), (0, .ref (a)), (1, .int (nI (q))), (2, .int (nI (2)))] dM_run_68 rfl (nI_add (i) 1) (by decide) rfl ?_
              refine x_goto F (tgt := 2) dM_run_71 (by decide) ?_
              exact ih (i + 1) (by omega) (by rw [hf, rn_s, if_pos (by simpa using c5)]; show i + (rn let_ tx k (q + i + 1) + 1) = i + 1 + rn let_ tx k (q + i + 1); omega)
          · skip
            have c4 : 2 = 1 := by
              exact (nI_eq (a := 2) (b := 1) (by omega) (by omega)).mp c4
            exact absurd c4 (by decide)
        · skip
          have c3 : 2 = 0 := by
            exact (nI_eq (a := 2) (b := 0) (by omega) (by omega)).mp c3
          exact absurd c3 (by decide)
  refine x_iconst F (v := nI (0)) dM_run_0 (by decide) ?_
  refine x_istore_n F [(3, .int (nI (0))), (0, .ref (a)), (1, .int (nI (q))), (2, .int (nI (2)))] dM_run_1 rfl (by decide) rfl ?_
  exact loop (sn - q) 0 (by omega) (by rw [Nat.zero_add]; rfl)
set_option maxHeartbeats 4000000 in
set_option maxRecDepth 100000 in
theorem cM_wordAt (l : Launch) (nx : Nat) (M : xH) (a : Nat) (th : Int32) (sg : Nat → Int32) (sn pr : Nat) (fk fp : Int32) (rws : Nat → Int32) (cd : Nat → Int64) (ds wc : Nat → Int32) (wd : Nat → Int64) (nn : Nat) (nE : Nat → Int32) (nC : Nat → Int64) (nK : Nat → Int32) (nO : Nat → Int64) (ln : Nat) (lF : Nat → Int32) (lC : Nat → Int64) (lT : Nat → Int32) (lO : Nat → Int64) (fn : Nat) (fC : Nat → Int64) (fP : Nat → Int32) (ak : Nat → Int64) (ac : Nat) (pt : Nat → Int32) (hT : mAt M a th sg sn pr fk fp rws cd ds wc wd nn nE nC nK nO ln lF lC lT lO fn fC fP ak ac pt) (tx : Nat → Nat) (hX : sAt sg tx sn) (q d : Nat) (hqd : q + d ≤ sn) (hl : ∀ i, i < d → let_ (tx (q + i)) = true) : xC l xcl yM_wordAt (xw (Cond.code yM_wordAt bM_wordAt 6 (some .long))) ({ frames := 0, cells := 0, slots := 0, locals := 0 } : Room) [.ref (a), .int (nI (q)), .int (nI (d))] nx M (x_is (some (.long (lN (wN tx q d)))) nx M) := by
  obtain ⟨h0, h1, h2, h3, h4, h5, h6, h7, h8, h9, h10, h11, h12, h13, h14, h15, h16, h17, h18, b1, b2, b3, b4, b5, b6⟩ := id hT
  refine yC (by decide) (Nat.le_of_ble_eq_true rfl) ?_
  intro p e s m args below meth c D F hr hn
  have loop : ∀ (k : Nat) (i : Nat), i + k = d → xW p l e ({ frames := 0, cells := 0, slots := 0, locals := 0 } : Room) s m args below meth c D xcl (x_A M nx) 6 (MQ below (x_Q D xcl (x_A M nx) (x_is (some (.long (lN (wN tx q d)))) nx M)) args s 0 0 (x_A M nx)) 0 0 (nx) M 5 [(5, .int (nI (i))), (3, .long (lN (wN tx q i))), (0, .ref (a)), (1, .int (nI (q))), (2, .int (nI (d)))] [] := by
    intro k
    induction k with
    | zero =>
      intro i hi
      refine x_iload F 0 dM_wordAt_5 rfl ?_
      refine x_iload_n F 4 dM_wordAt_7 rfl rfl ?_
      refine x_icmp_ge F (tgt := 38) dM_wordAt_8 (by decide) (fun c1 => ?_) (fun c1 => ?_)
      · skip
        have c1 : d ≤ i := by
          exact (nI_leI (a := d) (b := i) (by omega) (by omega)).mp c1
        refine x_lload_n F 1 dM_wordAt_38 rfl rfl ?_
        exact x_lret F hr dM_wordAt_39 (x_el (by rw [show i = d by omega]))
      · skip
        have c1 : i < d := by
          have z : ¬ (d ≤ i) := fun zz => c1 ((nI_leI (a := d) (b := i) (by omega) (by omega)).mpr zz)
          omega
        exact absurd c1 (by omega)
    | succ k ih =>
      intro i hi
      refine x_iload F 0 dM_wordAt_5 rfl ?_
      refine x_iload_n F 4 dM_wordAt_7 rfl rfl ?_
      refine x_icmp_ge F (tgt := 38) dM_wordAt_8 (by decide) (fun c2 => ?_) (fun c2 => ?_)
      · skip
        have c2 : d ≤ i := by
          exact (nI_leI (a := d) (b := i) (by omega) (by omega)).mp c2
        exact absurd c2 (by omega)
      · skip
        have c2 : i < d := by
          have z : ¬ (d ≤ i) := fun zz => c2 ((nI_leI (a := d) (b := i) (by omega) (by omega)).mpr zz)
          omega
        refine x_ldc2 F (x_m kjM_89) dM_wordAt_11 ?_
        refine x_lload_n F 1 dM_wordAt_14 rfl rfl ?_
        refine x_lmul F dM_wordAt_15 ?_
        refine xW.tol (lN (32 * wN tx q i)) (lN_mul 32 _) ?_
        refine x_aload_n F 2 dM_wordAt_16 rfl rfl ?_
        refine x_get (ci := 6) F 1 (x_in inM) rfl (by decide) (x_m kfM_7) dM_wordAt_17 h0 rfl ?_
        refine x_iload_n F 3 dM_wordAt_20 rfl rfl ?_
        refine x_iload F 0 dM_wordAt_21 rfl ?_
        refine x_iadd F dM_wordAt_23 ?_
        refine xW.toi (nI (q + i)) (nI_add _ _) ?_
        refine x_iald F dM_wordAt_24 h1 (pk_in (q + i) (400) (by omega)) ?_
        refine xW.toi (nI (tx (q + i))) (by rw [nI_clamp (by omega)]; exact (hX _ (by omega)).1) ?_
        have htx := (hX (q + i) (by omega)).2
        have hk := hl i (by omega)
        simp [let_] at hk
        refine x_i2l F dM_wordAt_25 ?_
        refine xW.tol (lN (tx (q + i))) (nI_l (by omega)) ?_
        refine x_ladd F dM_wordAt_26 ?_
        refine xW.tol (lN (32 * wN tx q i + tx (q + i))) (lN_add _ _) ?_
        refine x_ldc2 F (x_m kjM_91) dM_wordAt_27 ?_
        refine x_lsub F dM_wordAt_30 ?_
        refine xW.tol (lN (wN tx q (i + 1))) (by rw [show (96 : Int64) = lN 96 from rfl, lN_sub (by omega)]; congr 1; show _ = wN tx q i * 32 + (tx (q + i) - 97 + 1); omega) ?_
        refine x_lstore_n F [(3, .long (lN (wN tx q (i + 1)))), (5, .int (nI (i))), (0, .ref (a)), (1, .int (nI (q))), (2, .int (nI (d)))] dM_wordAt_31 rfl (by decide) rfl ?_
        refine x_iinc F 1 [(5, .int (nI (i + 1))), (3, .long (lN (wN tx q (i + 1)))), (0, .ref (a)), (1, .int (nI (q))), (2, .int (nI (d)))] dM_wordAt_32 rfl (nI_add (i) 1) (by decide) rfl ?_
        refine x_goto F (tgt := 5) dM_wordAt_35 (by decide) ?_
        exact ih (i + 1) (by omega)
  refine x_lconst F (v := 0) dM_wordAt_0 (by decide) ?_
  refine x_lstore_n F [(3, .long (0)), (0, .ref (a)), (1, .int (nI (q))), (2, .int (nI (d)))] dM_wordAt_1 rfl (by decide) rfl ?_
  refine x_iconst F (v := nI (0)) dM_wordAt_2 (by decide) ?_
  refine x_istore F [(5, .int (nI (0))), (3, .long (0)), (0, .ref (a)), (1, .int (nI (q))), (2, .int (nI (d)))] dM_wordAt_3 (by decide) rfl ?_
  exact loop d 0 (by omega)
set_option maxHeartbeats 4000000 in
set_option maxRecDepth 100000 in
theorem cM_codeAt (l : Launch) (nx : Nat) (M : xH) (a : Nat) (th : Int32) (sg : Nat → Int32) (sn pr : Nat) (fk fp : Int32) (rws : Nat → Int32) (cd : Nat → Int64) (ds wc : Nat → Int32) (wd : Nat → Int64) (nn : Nat) (nE : Nat → Int32) (nC : Nat → Int64) (nK : Nat → Int32) (nO : Nat → Int64) (ln : Nat) (lF : Nat → Int32) (lC : Nat → Int64) (lT : Nat → Int32) (lO : Nat → Int64) (fn : Nat) (fC : Nat → Int64) (fP : Nat → Int32) (ak : Nat → Int64) (ac : Nat) (pt : Nat → Int32) (hT : mAt M a th sg sn pr fk fp rws cd ds wc wd nn nE nC nK nO ln lF lC lT lO fn fC fP ak ac pt) (tx : Nat → Nat) (hX : sAt sg tx sn) (q d : Nat) (hqd : q + d ≤ sn) (hl : ∀ i, i < d → dig (tx (q + i)) = true) : xC l xcl yM_codeAt (xw (Cond.code yM_codeAt bM_codeAt 6 (some .long))) ({ frames := 0, cells := 0, slots := 0, locals := 0 } : Room) [.ref (a), .int (nI (q)), .int (nI (d))] nx M (x_is (some (.long (lN (cN tx q d)))) nx M) := by
  obtain ⟨h0, h1, h2, h3, h4, h5, h6, h7, h8, h9, h10, h11, h12, h13, h14, h15, h16, h17, h18, b1, b2, b3, b4, b5, b6⟩ := id hT
  refine yC (by decide) (Nat.le_of_ble_eq_true rfl) ?_
  intro p e s m args below meth c D F hr hn
  have loop : ∀ (k : Nat) (i : Nat), i + k = d → xW p l e ({ frames := 0, cells := 0, slots := 0, locals := 0 } : Room) s m args below meth c D xcl (x_A M nx) 6 (MQ below (x_Q D xcl (x_A M nx) (x_is (some (.long (lN (cN tx q d)))) nx M)) args s 0 0 (x_A M nx)) 0 0 (nx) M 5 [(5, .int (nI (i))), (3, .long (lN (cN tx q i))), (0, .ref (a)), (1, .int (nI (q))), (2, .int (nI (d)))] [] := by
    intro k
    induction k with
    | zero =>
      intro i hi
      refine x_iload F 0 dM_codeAt_5 rfl ?_
      refine x_iload_n F 4 dM_codeAt_7 rfl rfl ?_
      refine x_icmp_ge F (tgt := 38) dM_codeAt_8 (by decide) (fun c1 => ?_) (fun c1 => ?_)
      · skip
        have c1 : d ≤ i := by
          exact (nI_leI (a := d) (b := i) (by omega) (by omega)).mp c1
        refine x_lload_n F 1 dM_codeAt_38 rfl rfl ?_
        exact x_lret F hr dM_codeAt_39 (x_el (by rw [show i = d by omega]))
      · skip
        have c1 : i < d := by
          have z : ¬ (d ≤ i) := fun zz => c1 ((nI_leI (a := d) (b := i) (by omega) (by omega)).mpr zz)
          omega
        exact absurd c1 (by omega)
    | succ k ih =>
      intro i hi
      refine x_iload F 0 dM_codeAt_5 rfl ?_
      refine x_iload_n F 4 dM_codeAt_7 rfl rfl ?_
      refine x_icmp_ge F (tgt := 38) dM_codeAt_8 (by decide) (fun c2 => ?_) (fun c2 => ?_)
      · skip
        have c2 : d ≤ i := by
          exact (nI_leI (a := d) (b := i) (by omega) (by omega)).mp c2
        exact absurd c2 (by omega)
      · skip
        have c2 : i < d := by
          have z : ¬ (d ≤ i) := fun zz => c2 ((nI_leI (a := d) (b := i) (by omega) (by omega)).mpr zz)
          omega
        refine x_ldc2 F (x_m kjM_93) dM_codeAt_11 ?_
        refine x_lload_n F 1 dM_codeAt_14 rfl rfl ?_
        refine x_lmul F dM_codeAt_15 ?_
        refine xW.tol (lN (10 * cN tx q i)) (lN_mul 10 _) ?_
        refine x_aload_n F 2 dM_codeAt_16 rfl rfl ?_
        refine x_get (ci := 6) F 1 (x_in inM) rfl (by decide) (x_m kfM_7) dM_codeAt_17 h0 rfl ?_
        refine x_iload_n F 3 dM_codeAt_20 rfl rfl ?_
        refine x_iload F 0 dM_codeAt_21 rfl ?_
        refine x_iadd F dM_codeAt_23 ?_
        refine xW.toi (nI (q + i)) (nI_add _ _) ?_
        refine x_iald F dM_codeAt_24 h1 (pk_in (q + i) (400) (by omega)) ?_
        refine xW.toi (nI (tx (q + i))) (by rw [nI_clamp (by omega)]; exact (hX _ (by omega)).1) ?_
        have htx := (hX (q + i) (by omega)).2
        have hk := hl i (by omega)
        simp [dig] at hk
        refine x_i2l F dM_codeAt_25 ?_
        refine xW.tol (lN (tx (q + i))) (nI_l (by omega)) ?_
        refine x_ladd F dM_codeAt_26 ?_
        refine xW.tol (lN (10 * cN tx q i + tx (q + i))) (lN_add _ _) ?_
        refine x_ldc2 F (x_m kjM_95) dM_codeAt_27 ?_
        refine x_lsub F dM_codeAt_30 ?_
        refine xW.tol (lN (cN tx q (i + 1))) (by rw [show (48 : Int64) = lN 48 from rfl, lN_sub (by omega)]; congr 1; show _ = cN tx q i * 10 + (tx (q + i) - 48); omega) ?_
        refine x_lstore_n F [(3, .long (lN (cN tx q (i + 1)))), (5, .int (nI (i))), (0, .ref (a)), (1, .int (nI (q))), (2, .int (nI (d)))] dM_codeAt_31 rfl (by decide) rfl ?_
        refine x_iinc F 1 [(5, .int (nI (i + 1))), (3, .long (lN (cN tx q (i + 1)))), (0, .ref (a)), (1, .int (nI (q))), (2, .int (nI (d)))] dM_codeAt_32 rfl (nI_add (i) 1) (by decide) rfl ?_
        refine x_goto F (tgt := 5) dM_codeAt_35 (by decide) ?_
        exact ih (i + 1) (by omega)
  refine x_lconst F (v := 1) dM_codeAt_0 (by decide) ?_
  refine x_lstore_n F [(3, .long (1)), (0, .ref (a)), (1, .int (nI (q))), (2, .int (nI (d)))] dM_codeAt_1 rfl (by decide) rfl ?_
  refine x_iconst F (v := nI (0)) dM_codeAt_2 (by decide) ?_
  refine x_istore F [(5, .int (nI (0))), (3, .long (1)), (0, .ref (a)), (1, .int (nI (q))), (2, .int (nI (d)))] dM_codeAt_3 (by decide) rfl ?_
  exact loop d 0 (by omega)
set_option maxHeartbeats 4000000 in
set_option maxRecDepth 100000 in
theorem cM_digitsOf (l : Launch) (nx : Nat) (M : xH) (x d : Nat) (hx : cdg x d) : xC l xcl yM_digitsOf (xw (Cond.code yM_digitsOf bM_digitsOf 5 (some .int))) ({ frames := 0, cells := 0, slots := 0, locals := 0 } : Room) [.long (lN x)] nx M (x_is (some (.int (nI (d)))) nx M) := by
  refine yC (by decide) (Nat.le_of_ble_eq_true rfl) ?_
  intro p e s m args below meth c D F hr hn
  have loop : ∀ (k : Nat) (v i : Nat), i + k = d → cdg v k → xW p l e ({ frames := 0, cells := 0, slots := 0, locals := 0 } : Room) s m args below meth c D xcl (x_A M nx) 5 (MQ below (x_Q D xcl (x_A M nx) (x_is (some (.int (nI (d)))) nx M)) args s 0 0 (x_A M nx)) 0 0 (nx) M 4 [(3, .long (lN v)), (2, .int (nI (i))), (0, .long (lN x))] [] := by
    intro k
    induction k with
    | zero =>
      intro v i hi hv
      refine x_lload_n F 0 dM_digitsOf_4 rfl rfl ?_
      refine x_ldc2 F (x_m kjM_97) dM_digitsOf_5 ?_
      refine x_lcmp F dM_digitsOf_8 ?_
      refine x_if_le F (tgt := 24) dM_digitsOf_9 (by decide) (fun c1 => ?_) (fun c1 => ?_)
      · skip
        have c1 : lN v ≤ 9 := (lg_cmp_le (lN v) (9)).mp c1
        refine x_iload_n F 1 dM_digitsOf_24 rfl rfl ?_
        exact x_iret F hr dM_digitsOf_25 (x_e (by rw [show i = d by omega]))
      · skip
        have c1 : ¬ lN v ≤ 9 := fun z => c1 ((lg_cmp_le (lN v) (9)).mpr z)
        exact absurd ((pk_lLE (a := v) (b := 9) (by have := cdg_lt hv; omega) (by omega)).mpr (by have := cdg_0 hv; omega)) c1
    | succ k ih =>
      intro v i hi hv
      refine x_lload_n F 0 dM_digitsOf_4 rfl rfl ?_
      refine x_ldc2 F (x_m kjM_97) dM_digitsOf_5 ?_
      refine x_lcmp F dM_digitsOf_8 ?_
      refine x_if_le F (tgt := 24) dM_digitsOf_9 (by decide) (fun c2 => ?_) (fun c2 => ?_)
      · skip
        have c2 : lN v ≤ 9 := (lg_cmp_le (lN v) (9)).mp c2
        exact absurd ((pk_lLE (a := v) (b := 9) (by have := cdg_lt hv; omega) (by omega)).mp c2) (by have := cdg_10 hv; omega)
      · skip
        have c2 : ¬ lN v ≤ 9 := fun z => c2 ((lg_cmp_le (lN v) (9)).mpr z)
        have hvl := cdg_lt hv
        have hd10 := hv.2.2
        refine x_iinc F 1 [(2, .int (nI (i + 1))), (3, .long (lN v)), (0, .long (lN x))] dM_digitsOf_12 rfl (nI_add (i) 1) (by decide) rfl ?_
        refine x_lload_n F 1 dM_digitsOf_15 rfl rfl ?_
        refine x_ldc2 F (x_m kjM_93) dM_digitsOf_16 ?_
        refine x_ldiv F dM_digitsOf_19 (by decide) ?_
        refine xW.tol (lN (v / 10)) (pk_lDiv (b := 10) (by omega) (by omega) (by omega)) ?_
        refine x_lstore_n F [(3, .long (lN (v / 10))), (2, .int (nI (i + 1))), (0, .long (lN x))] dM_digitsOf_20 rfl (by decide) rfl ?_
        refine x_goto F (tgt := 4) dM_digitsOf_21 (by decide) ?_
        exact ih (v / 10) (i + 1) (by omega) (cdg_div hv)
  refine x_iconst F (v := nI (0)) dM_digitsOf_0 (by decide) ?_
  refine x_istore_n F [(2, .int (nI (0))), (0, .long (lN x))] dM_digitsOf_1 rfl (by decide) rfl ?_
  refine x_lload_n F 1 dM_digitsOf_2 rfl rfl ?_
  refine x_lstore_n F [(3, .long (lN x)), (2, .int (nI (0))), (0, .long (lN x))] dM_digitsOf_3 rfl (by decide) rfl ?_
  exact loop d x 0 (by omega) hx
set_option maxHeartbeats 4000000 in
set_option maxRecDepth 100000 in
theorem cM_cut (l : Launch) (nx : Nat) (M : xH) (x n mm : Nat) (hx : cdg x (n + mm)) : xC l xcl yM_cut (xw (Cond.code yM_cut bM_cut 6 (some .long))) ({ frames := 1, cells := 0, slots := 0, locals := 24 } : Room) [.long (lN x), .int (nI (n))] nx M (x_is (some (.long (lN (x / 10 ^ mm)))) nx M) := by
  refine yC (by decide) (Nat.le_of_ble_eq_true rfl) ?_
  intro p e s m args below meth c D F hr hn
  have loop : ∀ (k : Nat) (v : Nat), v < 2 ^ 40 → k ≤ mm → x / 10 ^ mm = v / 10 ^ k → xW p l e ({ frames := 1, cells := 0, slots := 0, locals := 24 } : Room) s m args below meth c D xcl (x_A M nx) 6 (MQ below (x_Q D xcl (x_A M nx) (x_is (some (.long (lN (x / 10 ^ mm)))) nx M)) args s 0 0 (x_A M nx)) 0 0 (nx) M 8 [(5, .int (nI (n + k))), (3, .long (lN v)), (0, .long (lN x)), (2, .int (nI (n)))] [] := by
    intro k
    induction k with
    | zero =>
      intro v hv hkm hf
      show xW p l e ({ frames := 1, cells := 0, slots := 0, locals := 24 } : Room) s m args below meth c D xcl (x_A M nx) 6 (MQ below (x_Q D xcl (x_A M nx) (x_is (some (.long (lN (x / 10 ^ mm)))) nx M)) args s 0 0 (x_A M nx)) 0 0 (nx) M 8 [(5, .int (nI (n))), (3, .long (lN v)), (0, .long (lN x)), (2, .int (nI (n)))] []
      have h10 := hx.2.2
      refine x_iload F 0 dM_cut_8 rfl ?_
      refine x_iload_n F 3 dM_cut_10 rfl rfl ?_
      refine x_icmp_le F (tgt := 26) dM_cut_11 (by decide) (fun c1 => ?_) (fun c1 => ?_)
      · skip
        have c1 : n ≤ n := by
          exact (nI_leI (a := n) (b := n) (by omega) (by omega)).mp c1
        refine x_lload_n F 1 dM_cut_26 rfl rfl ?_
        exact x_lret F hr dM_cut_27 (x_el (by rw [hf, Nat.pow_zero, Nat.div_one]))
      · skip
        have c1 : n < n := by
          have z : ¬ (n ≤ n) := fun zz => c1 ((nI_leI (a := n) (b := n) (by omega) (by omega)).mpr zz)
          omega
        exact absurd c1 (by omega)
    | succ k ih =>
      intro v hv hkm hf
      show xW p l e ({ frames := 1, cells := 0, slots := 0, locals := 24 } : Room) s m args below meth c D xcl (x_A M nx) 6 (MQ below (x_Q D xcl (x_A M nx) (x_is (some (.long (lN (x / 10 ^ mm)))) nx M)) args s 0 0 (x_A M nx)) 0 0 (nx) M 8 [(5, .int (nI (n + k + 1))), (3, .long (lN v)), (0, .long (lN x)), (2, .int (nI (n)))] []
      have h10 := hx.2.2
      refine x_iload F 0 dM_cut_8 rfl ?_
      refine x_iload_n F 3 dM_cut_10 rfl rfl ?_
      refine x_icmp_le F (tgt := 26) dM_cut_11 (by decide) (fun c2 => ?_) (fun c2 => ?_)
      · skip
        have c2 : n + k + 1 ≤ n := by
          exact (nI_leI (a := n + k + 1) (b := n) (by omega) (by omega)).mp c2
        exact absurd c2 (by omega)
      · skip
        have c2 : n < n + k + 1 := by
          have z : ¬ (n + k + 1 ≤ n) := fun zz => c2 ((nI_leI (a := n + k + 1) (b := n) (by omega) (by omega)).mpr zz)
          omega
        refine x_lload_n F 1 dM_cut_14 rfl rfl ?_
        refine x_ldc2 F (x_m kjM_93) dM_cut_15 ?_
        refine x_ldiv F dM_cut_18 (by decide) ?_
        refine xW.tol (lN (v / 10)) (pk_lDiv (b := 10) (by omega) (by omega) (by omega)) ?_
        refine x_lstore_n F [(3, .long (lN (v / 10))), (5, .int (nI (n + k + 1))), (0, .long (lN x)), (2, .int (nI (n)))] dM_cut_19 rfl (by decide) rfl ?_
        refine x_iinc F 1 [(5, .int (nI (n + k))), (3, .long (lN (v / 10))), (0, .long (lN x)), (2, .int (nI (n)))] dM_cut_20 rfl (pk_m1 (n + k)) (by decide) rfl ?_
        refine x_goto F (tgt := 8) dM_cut_23 (by decide) ?_
        exact ih (v / 10) (by omega) (by omega) (by rw [hf, Nat.pow_succ, Nat.div_div_eq_div_mul, Nat.mul_comm])
  refine x_lload_n F 0 dM_cut_0 rfl rfl ?_
  refine x_lstore_n F [(3, .long (lN x)), (0, .long (lN x)), (2, .int (nI (n)))] dM_cut_1 rfl (by decide) rfl ?_
  refine x_lload_n F 1 dM_cut_2 rfl rfl ?_
  refine yS (n := 1) (As := [.long (lN x)]) F kmM_99 ktM_digitsOf knM kcM_digitsOf (by decide +kernel) dM_cut_3 (cM_digitsOf l (nx) M x (n + mm) hx) rfl rfl (Nat.le_of_ble_eq_true rfl) ⟨Nat.le_of_ble_eq_true rfl, Nat.le_of_ble_eq_true rfl⟩ ⟨Nat.le_of_ble_eq_true rfl, Nat.le_of_ble_eq_true rfl⟩ ?_
  refine x_istore F [(5, .int (nI (n + mm))), (3, .long (lN x)), (0, .long (lN x)), (2, .int (nI (n)))] dM_cut_6 (by decide) rfl ?_
  exact loop mm x (cdg_lt hx) (Nat.le_refl _) rfl
set_option maxHeartbeats 4000000 in
set_option maxRecDepth 100000 in
theorem cM_begins (l : Launch) (nx : Nat) (M : xH) (x d y f : Nat) (hx : cdg x d) (hy : cdg y f) : xC l xcl yM_begins (xw (Cond.code yM_begins bM_begins 4 (some .boolean))) ({ frames := 2, cells := 0, slots := 0, locals := 49 } : Room) [.long (lN x), .long (lN y)] nx M (x_is (some (.int (bI (mbg x d y f)))) nx M) := by
  have hd10 := hx.2.2
  have hf10 := hy.2.2
  have hxl := cdg_lt hx
  have hyl := cdg_lt hy
  refine yC (by decide) (Nat.le_of_ble_eq_true rfl) ?_
  intro p e s m args below meth c D F hr hn
  refine x_lload_n F 0 dM_begins_0 rfl rfl ?_
  refine yS (n := 1) (As := [.long (lN x)]) F kmM_99 ktM_digitsOf knM kcM_digitsOf (by decide +kernel) dM_begins_1 (cM_digitsOf l (nx) M x d hx) rfl rfl (Nat.le_of_ble_eq_true rfl) ⟨Nat.le_of_ble_eq_true rfl, Nat.le_of_ble_eq_true rfl⟩ ⟨Nat.le_of_ble_eq_true rfl, Nat.le_of_ble_eq_true rfl⟩ ?_
  refine x_lload_n F 1 dM_begins_4 rfl rfl ?_
  refine yS (n := 1) (As := [.long (lN y)]) F kmM_99 ktM_digitsOf knM kcM_digitsOf (by decide +kernel) dM_begins_5 (cM_digitsOf l (nx) M y f hy) rfl rfl (Nat.le_of_ble_eq_true rfl) ⟨Nat.le_of_ble_eq_true rfl, Nat.le_of_ble_eq_true rfl⟩ ⟨Nat.le_of_ble_eq_true rfl, Nat.le_of_ble_eq_true rfl⟩ ?_
  refine x_icmp_le F (tgt := 28) dM_begins_8 (by decide) (fun c1 => ?_) (fun c1 => ?_)
  · skip
    have c1 : d ≤ f := by
      exact (nI_leI (a := d) (b := f) (by omega) (by omega)).mp c1
    refine x_iconst F (v := nI (0)) dM_begins_28 (by decide) ?_
    exact x_zret F hr (by rfl) dM_begins_29 (x_f (by rw [mbg, decide_eq_false (p := f < d) (by omega)]; rfl))
  · skip
    have c1 : f < d := by
      have z : ¬ (d ≤ f) := fun zz => c1 ((nI_leI (a := d) (b := f) (by omega) (by omega)).mpr zz)
      omega
    refine x_lload_n F 0 dM_begins_11 rfl rfl ?_
    refine x_lload_n F 1 dM_begins_12 rfl rfl ?_
    refine yS (n := 1) (As := [.long (lN y)]) F kmM_99 ktM_digitsOf knM kcM_digitsOf (by decide +kernel) dM_begins_13 (cM_digitsOf l (nx) M y f hy) rfl rfl (Nat.le_of_ble_eq_true rfl) ⟨Nat.le_of_ble_eq_true rfl, Nat.le_of_ble_eq_true rfl⟩ ⟨Nat.le_of_ble_eq_true rfl, Nat.le_of_ble_eq_true rfl⟩ ?_
    refine yS (n := 2) (As := [.long (lN x), .int (nI (f))]) F kmM_103 ktM_cut knM kcM_cut (by decide +kernel) dM_begins_16 (cM_cut l (nx) M x f (d - f) (by rw [show f + (d - f) = d by omega]; exact hx)) rfl rfl (Nat.le_of_ble_eq_true rfl) ⟨Nat.le_of_ble_eq_true rfl, Nat.le_of_ble_eq_true rfl⟩ ⟨Nat.le_of_ble_eq_true rfl, Nat.le_of_ble_eq_true rfl⟩ ?_
    refine x_lload_n F 1 dM_begins_19 rfl rfl ?_
    refine x_lcmp F dM_begins_20 ?_
    refine x_if_ne F (tgt := 28) dM_begins_21 (by decide) (fun c2 => ?_) (fun c2 => ?_)
    · skip
      have c2 : ¬ lN (x / 10 ^ (d - f)) = lN y := fun z => c2 ((lg_cmp_eq (lN (x / 10 ^ (d - f))) (lN y)).mpr z)
      refine x_iconst F (v := nI (0)) dM_begins_28 (by decide) ?_
      exact x_zret F hr (by rfl) dM_begins_29 (x_f (by rw [mbg, decide_eq_false (p := x / 10 ^ (d - f) = y) (fun z => c2 (by rw [z])), Bool.and_false]))
    · skip
      have c2 : lN (x / 10 ^ (d - f)) = lN y := (lg_cmp_eq (lN (x / 10 ^ (d - f))) (lN y)).mp c2
      refine x_iconst F (v := nI (1)) dM_begins_24 (by decide) ?_
      refine x_goto F (tgt := 29) dM_begins_25 (by decide) ?_
      exact x_zret F hr (by rfl) dM_begins_29 (x_t (by rw [mbg, decide_eq_true c1, decide_eq_true ((pk_lEQ (by have := Nat.div_le_self x (10 ^ (d - f)); omega) (by omega)).mp c2)]; rfl))
set_option maxHeartbeats 4000000 in
set_option maxRecDepth 100000 in
theorem cM_isBehind (l : Launch) (nx : Nat) (M : xH) (x d y f : Nat) (hx : cdg x d) (hy : cdg y f) : xC l xcl yM_isBehind (xw (Cond.code yM_isBehind bM_isBehind 5 (some .boolean))) ({ frames := 3, cells := 0, slots := 0, locals := 72 } : Room) [.long (lN x), .long (lN y)] nx M (x_is (some (.int (bI (mbh x d y f)))) nx M) := by
  have hd10 := hx.2.2
  have hf10 := hy.2.2
  have hxl := cdg_lt hx
  have hyl := cdg_lt hy
  refine yC (by decide) (Nat.le_of_ble_eq_true rfl) ?_
  intro p e s m args below meth c D F hr hn
  refine x_lload_n F 0 dM_isBehind_0 rfl rfl ?_
  refine yS (n := 1) (As := [.long (lN x)]) F kmM_99 ktM_digitsOf knM kcM_digitsOf (by decide +kernel) dM_isBehind_1 (cM_digitsOf l (nx) M x d hx) rfl rfl (Nat.le_of_ble_eq_true rfl) ⟨Nat.le_of_ble_eq_true rfl, Nat.le_of_ble_eq_true rfl⟩ ⟨Nat.le_of_ble_eq_true rfl, Nat.le_of_ble_eq_true rfl⟩ ?_
  refine x_lload_n F 1 dM_isBehind_4 rfl rfl ?_
  refine yS (n := 1) (As := [.long (lN y)]) F kmM_99 ktM_digitsOf knM kcM_digitsOf (by decide +kernel) dM_isBehind_5 (cM_digitsOf l (nx) M y f hy) rfl rfl (Nat.le_of_ble_eq_true rfl) ⟨Nat.le_of_ble_eq_true rfl, Nat.le_of_ble_eq_true rfl⟩ ⟨Nat.le_of_ble_eq_true rfl, Nat.le_of_ble_eq_true rfl⟩ ?_
  refine x_icmp_ge F (tgt := 18) dM_isBehind_8 (by decide) (fun c1 => ?_) (fun c1 => ?_)
  · skip
    have c1 : f ≤ d := by
      exact (nI_leI (a := f) (b := d) (by omega) (by omega)).mp c1
    refine x_lload_n F 1 dM_isBehind_18 rfl rfl ?_
    refine yS (n := 1) (As := [.long (lN y)]) F kmM_99 ktM_digitsOf knM kcM_digitsOf (by decide +kernel) dM_isBehind_19 (cM_digitsOf l (nx) M y f hy) rfl rfl (Nat.le_of_ble_eq_true rfl) ⟨Nat.le_of_ble_eq_true rfl, Nat.le_of_ble_eq_true rfl⟩ ⟨Nat.le_of_ble_eq_true rfl, Nat.le_of_ble_eq_true rfl⟩ ?_
    refine x_istore F [(4, .int (nI (f))), (0, .long (lN x)), (2, .long (lN y))] dM_isBehind_22 (by decide) rfl ?_
    refine x_lload_n F 1 dM_isBehind_24 rfl rfl ?_
    refine x_iload F 0 dM_isBehind_25 rfl ?_
    refine yS (n := 2) (As := [.long (lN x), .int (nI (f))]) F kmM_103 ktM_cut knM kcM_cut (by decide +kernel) dM_isBehind_27 (cM_cut l (nx) M x f (d - f) (by rw [show f + (d - f) = d by omega]; exact hx)) rfl rfl (Nat.le_of_ble_eq_true rfl) ⟨Nat.le_of_ble_eq_true rfl, Nat.le_of_ble_eq_true rfl⟩ ⟨Nat.le_of_ble_eq_true rfl, Nat.le_of_ble_eq_true rfl⟩ ?_
    refine x_lload_n F 2 dM_isBehind_30 rfl rfl ?_
    refine x_iload F 0 dM_isBehind_31 rfl ?_
    refine yS (n := 2) (As := [.long (lN y), .int (nI (f))]) F kmM_103 ktM_cut knM kcM_cut (by decide +kernel) dM_isBehind_33 (cM_cut l (nx) M y f 0 hy) rfl rfl (Nat.le_of_ble_eq_true rfl) ⟨Nat.le_of_ble_eq_true rfl, Nat.le_of_ble_eq_true rfl⟩ ⟨Nat.le_of_ble_eq_true rfl, Nat.le_of_ble_eq_true rfl⟩ ?_
    refine x_lcmp F dM_isBehind_36 ?_
    refine x_if_gt F (tgt := 48) dM_isBehind_37 (by decide) (fun c2 => ?_) (fun c2 => ?_)
    · skip
      have c2 : lN (y / 10 ^ 0) < lN (x / 10 ^ (d - f)) := (lg_cmp_gt (lN (x / 10 ^ (d - f))) (lN (y / 10 ^ 0))).mp c2
      refine x_iconst F (v := nI (1)) dM_isBehind_48 (by decide) ?_
      refine x_goto F (tgt := 53) dM_isBehind_49 (by decide) ?_
      exact x_zret F hr (by rfl) dM_isBehind_53 (x_t (by rw [mbh, if_neg (by omega), decide_eq_true (show y < x / 10 ^ (d - f) by have z := (pk_lLT (a := y / 10 ^ 0) (b := x / 10 ^ (d - f)) (by have := Nat.div_le_self y (10 ^ (f - d)); have := Nat.div_le_self y (10 ^ 0); omega) (by have := Nat.div_le_self x (10 ^ (d - f)); have := Nat.div_le_self x (10 ^ 0); omega)).mp c2; simpa using z), Bool.true_or]))
    · skip
      have c2 : ¬ lN (y / 10 ^ 0) < lN (x / 10 ^ (d - f)) := fun z => c2 ((lg_cmp_gt (lN (x / 10 ^ (d - f))) (lN (y / 10 ^ 0))).mpr z)
      refine x_lload_n F 1 dM_isBehind_40 rfl rfl ?_
      refine x_lload_n F 2 dM_isBehind_41 rfl rfl ?_
      refine yS (n := 2) (As := [.long (lN x), .long (lN y)]) F kmM_107 ktM_begins knM kcM_begins (by decide +kernel) dM_isBehind_42 (cM_begins l (nx) M x d y f hx hy) rfl rfl (Nat.le_of_ble_eq_true rfl) ⟨Nat.le_of_ble_eq_true rfl, Nat.le_of_ble_eq_true rfl⟩ ⟨Nat.le_of_ble_eq_true rfl, Nat.le_of_ble_eq_true rfl⟩ ?_
      refine x_if_eq F (tgt := 52) dM_isBehind_45 (by decide) (fun c3 => ?_) (fun c3 => ?_)
      · skip
        have c3 : (mbg x d y f) = false := bI_0 c3
        refine x_iconst F (v := nI (0)) dM_isBehind_52 (by decide) ?_
        exact x_zret F hr (by rfl) dM_isBehind_53 (x_f (by rw [mbh, if_neg (by omega), decide_eq_false (show ¬ y < x / 10 ^ (d - f) from fun z => c2 ((pk_lLT (a := y / 10 ^ 0) (b := x / 10 ^ (d - f)) (by have := Nat.div_le_self y (10 ^ (f - d)); have := Nat.div_le_self y (10 ^ 0); omega) (by have := Nat.div_le_self x (10 ^ (d - f)); have := Nat.div_le_self x (10 ^ 0); omega)).mpr (by simpa using z))), c3]; rfl))
      · skip
        have c3 : (mbg x d y f) = true := bI_1 c3
        refine x_iconst F (v := nI (1)) dM_isBehind_48 (by decide) ?_
        refine x_goto F (tgt := 53) dM_isBehind_49 (by decide) ?_
        exact x_zret F hr (by rfl) dM_isBehind_53 (x_t (by rw [mbh, if_neg (by omega), decide_eq_false (show ¬ y < x / 10 ^ (d - f) from fun z => c2 ((pk_lLT (a := y / 10 ^ 0) (b := x / 10 ^ (d - f)) (by have := Nat.div_le_self y (10 ^ (f - d)); have := Nat.div_le_self y (10 ^ 0); omega) (by have := Nat.div_le_self x (10 ^ (d - f)); have := Nat.div_le_self x (10 ^ 0); omega)).mpr (by simpa using z))), c3]; rfl))
  · skip
    have c1 : d < f := by
      have z : ¬ (f ≤ d) := fun zz => c1 ((nI_leI (a := f) (b := d) (by omega) (by omega)).mpr zz)
      omega
    refine x_lload_n F 0 dM_isBehind_11 rfl rfl ?_
    refine yS (n := 1) (As := [.long (lN x)]) F kmM_99 ktM_digitsOf knM kcM_digitsOf (by decide +kernel) dM_isBehind_12 (cM_digitsOf l (nx) M x d hx) rfl rfl (Nat.le_of_ble_eq_true rfl) ⟨Nat.le_of_ble_eq_true rfl, Nat.le_of_ble_eq_true rfl⟩ ⟨Nat.le_of_ble_eq_true rfl, Nat.le_of_ble_eq_true rfl⟩ ?_
    refine x_goto F (tgt := 22) dM_isBehind_15 (by decide) ?_
    refine x_istore F [(4, .int (nI (d))), (0, .long (lN x)), (2, .long (lN y))] dM_isBehind_22 (by decide) rfl ?_
    refine x_lload_n F 1 dM_isBehind_24 rfl rfl ?_
    refine x_iload F 0 dM_isBehind_25 rfl ?_
    refine yS (n := 2) (As := [.long (lN x), .int (nI (d))]) F kmM_103 ktM_cut knM kcM_cut (by decide +kernel) dM_isBehind_27 (cM_cut l (nx) M x d 0 hx) rfl rfl (Nat.le_of_ble_eq_true rfl) ⟨Nat.le_of_ble_eq_true rfl, Nat.le_of_ble_eq_true rfl⟩ ⟨Nat.le_of_ble_eq_true rfl, Nat.le_of_ble_eq_true rfl⟩ ?_
    refine x_lload_n F 2 dM_isBehind_30 rfl rfl ?_
    refine x_iload F 0 dM_isBehind_31 rfl ?_
    refine yS (n := 2) (As := [.long (lN y), .int (nI (d))]) F kmM_103 ktM_cut knM kcM_cut (by decide +kernel) dM_isBehind_33 (cM_cut l (nx) M y d (f - d) (by rw [show d + (f - d) = f by omega]; exact hy)) rfl rfl (Nat.le_of_ble_eq_true rfl) ⟨Nat.le_of_ble_eq_true rfl, Nat.le_of_ble_eq_true rfl⟩ ⟨Nat.le_of_ble_eq_true rfl, Nat.le_of_ble_eq_true rfl⟩ ?_
    refine x_lcmp F dM_isBehind_36 ?_
    refine x_if_gt F (tgt := 48) dM_isBehind_37 (by decide) (fun c4 => ?_) (fun c4 => ?_)
    · skip
      have c4 : lN (y / 10 ^ (f - d)) < lN (x / 10 ^ 0) := (lg_cmp_gt (lN (x / 10 ^ 0)) (lN (y / 10 ^ (f - d)))).mp c4
      refine x_iconst F (v := nI (1)) dM_isBehind_48 (by decide) ?_
      refine x_goto F (tgt := 53) dM_isBehind_49 (by decide) ?_
      exact x_zret F hr (by rfl) dM_isBehind_53 (x_t (by rw [mbh, if_pos c1, decide_eq_true (show y / 10 ^ (f - d) < x by have z := (pk_lLT (a := y / 10 ^ (f - d)) (b := x / 10 ^ 0) (by have := Nat.div_le_self y (10 ^ (f - d)); have := Nat.div_le_self y (10 ^ 0); omega) (by have := Nat.div_le_self x (10 ^ (d - f)); have := Nat.div_le_self x (10 ^ 0); omega)).mp c4; simpa using z), Bool.true_or]))
    · skip
      have c4 : ¬ lN (y / 10 ^ (f - d)) < lN (x / 10 ^ 0) := fun z => c4 ((lg_cmp_gt (lN (x / 10 ^ 0)) (lN (y / 10 ^ (f - d)))).mpr z)
      refine x_lload_n F 1 dM_isBehind_40 rfl rfl ?_
      refine x_lload_n F 2 dM_isBehind_41 rfl rfl ?_
      refine yS (n := 2) (As := [.long (lN x), .long (lN y)]) F kmM_107 ktM_begins knM kcM_begins (by decide +kernel) dM_isBehind_42 (cM_begins l (nx) M x d y f hx hy) rfl rfl (Nat.le_of_ble_eq_true rfl) ⟨Nat.le_of_ble_eq_true rfl, Nat.le_of_ble_eq_true rfl⟩ ⟨Nat.le_of_ble_eq_true rfl, Nat.le_of_ble_eq_true rfl⟩ ?_
      refine x_if_eq F (tgt := 52) dM_isBehind_45 (by decide) (fun c5 => ?_) (fun c5 => ?_)
      · skip
        have c5 : (mbg x d y f) = false := bI_0 c5
        refine x_iconst F (v := nI (0)) dM_isBehind_52 (by decide) ?_
        exact x_zret F hr (by rfl) dM_isBehind_53 (x_f (by rw [mbh, if_pos c1, decide_eq_false (show ¬ y / 10 ^ (f - d) < x from fun z => c4 ((pk_lLT (a := y / 10 ^ (f - d)) (b := x / 10 ^ 0) (by have := Nat.div_le_self y (10 ^ (f - d)); have := Nat.div_le_self y (10 ^ 0); omega) (by have := Nat.div_le_self x (10 ^ (d - f)); have := Nat.div_le_self x (10 ^ 0); omega)).mpr (by simpa using z))), c5]; rfl))
      · skip
        have c5 : (mbg x d y f) = true := bI_1 c5
        refine x_iconst F (v := nI (1)) dM_isBehind_48 (by decide) ?_
        refine x_goto F (tgt := 53) dM_isBehind_49 (by decide) ?_
        exact x_zret F hr (by rfl) dM_isBehind_53 (x_t (by rw [mbh, if_pos c1, decide_eq_false (show ¬ y / 10 ^ (f - d) < x from fun z => c4 ((pk_lLT (a := y / 10 ^ (f - d)) (b := x / 10 ^ 0) (by have := Nat.div_le_self y (10 ^ (f - d)); have := Nat.div_le_self y (10 ^ 0); omega) (by have := Nat.div_le_self x (10 ^ (d - f)); have := Nat.div_le_self x (10 ^ 0); omega)).mpr (by simpa using z))), c5]; rfl))
set_option maxHeartbeats 4000000 in
set_option maxRecDepth 100000 in
theorem cM_above (l : Launch) (nx : Nat) (M : xH) (a : Nat) (th : Int32) (sg : Nat → Int32) (sn pr : Nat) (fk fp : Int32) (rws : Nat → Int32) (cd : Nat → Int64) (ds wc : Nat → Int32) (wd : Nat → Int64) (nn : Nat) (nE : Nat → Int32) (nC : Nat → Int64) (nK : Nat → Int32) (nO : Nat → Int64) (ln : Nat) (lF : Nat → Int32) (lC : Nat → Int64) (lT : Nat → Int32) (lO : Nat → Int64) (fn : Nat) (fC : Nat → Int64) (fP : Nat → Int32) (ak : Nat → Int64) (ac : Nat) (pt : Nat → Int32) (hT : mAt M a th sg sn pr fk fp rws cd ds wc wd nn nE nC nK nO ln lF lC lT lO fn fC fP ak ac pt) (f i : Nat) (hfi : f + i < 160) : xC l xcl yM_above (xw (Cond.code yM_above bM_above 4 (some .int))) ({ frames := 0, cells := 0, slots := 0, locals := 0 } : Room) [.ref (a), .int (nI (f)), .int (nI (f + i))] nx M (x_is (some (.int (oj f (mUp ds f i)))) nx M) := by
  obtain ⟨h0, h1, h2, h3, h4, h5, h6, h7, h8, h9, h10, h11, h12, h13, h14, h15, h16, h17, h18, b1, b2, b3, b4, b5, b6⟩ := id hT
  refine yC (by decide) (Nat.le_of_ble_eq_true rfl) ?_
  intro p e s m args below meth c D F hr hn
  have loop : ∀ (k : Nat) , k ≤ i → la (fun j => decide (ds (f + j) = ds (f + i) - nI 1)) i = la (fun j => decide (ds (f + j) = ds (f + i) - nI 1)) k → xW p l e ({ frames := 0, cells := 0, slots := 0, locals := 0 } : Room) s m args below meth c D xcl (x_A M nx) 4 (MQ below (x_Q D xcl (x_A M nx) (x_is (some (.int (oj f (mUp ds f i)))) nx M)) args s 0 0 (x_A M nx)) 0 0 (nx) M 4 [(3, .int (nI (f + k) - nI 1)), (0, .ref (a)), (1, .int (nI (f))), (2, .int (nI (f + i)))] [] := by
    intro k
    induction k with
    | zero =>
      intro hk hf
      show xW p l e ({ frames := 0, cells := 0, slots := 0, locals := 0 } : Room) s m args below meth c D xcl (x_A M nx) 4 (MQ below (x_Q D xcl (x_A M nx) (x_is (some (.int (oj f (mUp ds f i)))) nx M)) args s 0 0 (x_A M nx)) 0 0 (nx) M 4 [(3, .int (nI f - nI 1)), (0, .ref (a)), (1, .int (nI (f))), (2, .int (nI (f + i)))] []
      refine x_iload_n F 0 dM_above_4 rfl rfl ?_
      refine x_iload_n F 2 dM_above_5 rfl rfl ?_
      refine x_icmp_lt F (tgt := 32) dM_above_6 (by decide) (fun c1 => ?_) (fun c1 => ?_)
      · skip
        refine x_aload_n F 1 dM_above_32 rfl rfl ?_
        refine x_get (ci := 6) F 8 (x_in inM) rfl (by decide) (x_m kfM_24) dM_above_33 h0 rfl ?_
        refine x_iload_n F 3 dM_above_36 rfl rfl ?_
        refine x_iald F dM_above_37 h4 (pk_in (f + i) (160) (by omega)) ?_
        refine xW.toi ((ds) (f + i)) (by rw [nI_clamp (by omega)]) ?_
        refine x_if_eq F (tgt := 46) dM_above_38 (by decide) (fun c2 => ?_) (fun c2 => ?_)
        · skip
          refine x_iconst F (v := (-1)) dM_above_46 (by decide) ?_
          refine x_goto F (tgt := 51) dM_above_47 (by decide) ?_
          exact x_iret F hr dM_above_51 (x_e (by rw [mUp, if_pos c2]; rfl))
        · skip
          refine x_iload_n F 0 dM_above_41 rfl rfl ?_
          refine x_iload_n F 2 dM_above_42 rfl rfl ?_
          refine x_icmp_ge F (tgt := 50) dM_above_43 (by decide) (fun c3 => ?_) (fun c3 => ?_)
          · skip
            exact absurd (pd_lt (by omega)) (Int32.not_lt.mpr c3)
          · skip
            refine x_iconst F (v := (-1)) dM_above_46 (by decide) ?_
            refine x_goto F (tgt := 51) dM_above_47 (by decide) ?_
            exact x_iret F hr dM_above_51 (x_e (by rw [mUp, if_neg c2, hf]; rfl))
      · skip
        exact absurd (pd_lt (by omega)) c1
    | succ k ih =>
      intro hk hf
      refine xW.lve (lv' := [(3, .int (nI (f + k))), (0, .ref (a)), (1, .int (nI (f))), (2, .int (nI (f + i)))]) (by rw [show nI (f + (k + 1)) - nI 1 = nI (f + k) from nI_pred (f + k)]) ?_
      refine x_iload_n F 0 dM_above_4 rfl rfl ?_
      refine x_iload_n F 2 dM_above_5 rfl rfl ?_
      refine x_icmp_lt F (tgt := 32) dM_above_6 (by decide) (fun c4 => ?_) (fun c4 => ?_)
      · skip
        have c4 : f + k < f := by
          exact (nI_ltI (a := f + k) (b := f) (by omega) (by omega)).mp c4
        exact absurd c4 (by omega)
      · skip
        have c4 : f ≤ f + k := by
          have z : ¬ (f + k < f) := fun zz => c4 ((nI_ltI (a := f + k) (b := f) (by omega) (by omega)).mpr zz)
          omega
        refine x_aload_n F 1 dM_above_9 rfl rfl ?_
        refine x_get (ci := 6) F 8 (x_in inM) rfl (by decide) (x_m kfM_24) dM_above_10 h0 rfl ?_
        refine x_iload_n F 0 dM_above_13 rfl rfl ?_
        refine x_iald F dM_above_14 h4 (pk_in (f + k) (160) (by omega)) ?_
        refine xW.toi ((ds) (f + k)) (by rw [nI_clamp (by omega)]) ?_
        refine x_aload_n F 1 dM_above_15 rfl rfl ?_
        refine x_get (ci := 6) F 8 (x_in inM) rfl (by decide) (x_m kfM_24) dM_above_16 h0 rfl ?_
        refine x_iload_n F 3 dM_above_19 rfl rfl ?_
        refine x_iald F dM_above_20 h4 (pk_in (f + i) (160) (by omega)) ?_
        refine xW.toi ((ds) (f + i)) (by rw [nI_clamp (by omega)]) ?_
        refine x_iconst F (v := nI (1)) dM_above_21 (by decide) ?_
        refine x_isub F dM_above_22 ?_
        refine x_icmp_eq F (tgt := 32) dM_above_23 (by decide) (fun c5 => ?_) (fun c5 => ?_)
        · skip
          refine x_aload_n F 1 dM_above_32 rfl rfl ?_
          refine x_get (ci := 6) F 8 (x_in inM) rfl (by decide) (x_m kfM_24) dM_above_33 h0 rfl ?_
          refine x_iload_n F 3 dM_above_36 rfl rfl ?_
          refine x_iald F dM_above_37 h4 (pk_in (f + i) (160) (by omega)) ?_
          refine xW.toi ((ds) (f + i)) (by rw [nI_clamp (by omega)]) ?_
          refine x_if_eq F (tgt := 46) dM_above_38 (by decide) (fun c6 => ?_) (fun c6 => ?_)
          · skip
            refine x_iconst F (v := (-1)) dM_above_46 (by decide) ?_
            refine x_goto F (tgt := 51) dM_above_47 (by decide) ?_
            exact x_iret F hr dM_above_51 (x_e (by rw [mUp, if_pos c6]; rfl))
          · skip
            refine x_iload_n F 0 dM_above_41 rfl rfl ?_
            refine x_iload_n F 2 dM_above_42 rfl rfl ?_
            refine x_icmp_ge F (tgt := 50) dM_above_43 (by decide) (fun c7 => ?_) (fun c7 => ?_)
            · skip
              have c7 : f ≤ f + k := by
                exact (nI_leI (a := f) (b := f + k) (by omega) (by omega)).mp c7
              refine x_iload_n F 0 dM_above_50 rfl rfl ?_
              exact x_iret F hr dM_above_51 (x_e (by rw [mUp, if_neg c6, hf, la_s, if_pos (by simpa using c5)]; rfl))
            · skip
              have c7 : f + k < f := by
                have z : ¬ (f ≤ f + k) := fun zz => c7 ((nI_leI (a := f) (b := f + k) (by omega) (by omega)).mpr zz)
                omega
              exact absurd c7 (by omega)
        · skip
          refine x_iinc F 0 [(3, .int (pd (f + k))), (0, .ref (a)), (1, .int (nI (f))), (2, .int (nI (f + i)))] dM_above_26 rfl (pd_dec (f + k)) (by decide) rfl ?_
          refine x_goto F (tgt := 4) dM_above_29 (by decide) ?_
          exact xW.lve (lv' := [(3, .int (nI (f + k) - nI 1)), (0, .ref (a)), (1, .int (nI (f))), (2, .int (nI (f + i)))]) (by rw [pd_of]) (ih (by omega) (by rw [hf, la_s, if_neg (by simpa using c5)]))
  refine x_iload_n F 2 dM_above_0 rfl rfl ?_
  refine x_iconst F (v := nI (1)) dM_above_1 (by decide) ?_
  refine x_isub F dM_above_2 ?_
  refine xW.toi (nI (f + i) - nI 1) (rfl) ?_
  refine x_istore_n F [(3, .int (nI (f + i) - nI 1)), (0, .ref (a)), (1, .int (nI (f))), (2, .int (nI (f + i)))] dM_above_3 rfl (by decide) rfl ?_
  exact loop i (Nat.le_refl _) rfl
set_option maxHeartbeats 4000000 in
set_option maxRecDepth 100000 in
theorem cM_below (l : Launch) (nx : Nat) (M : xH) (a : Nat) (th : Int32) (sg : Nat → Int32) (sn pr : Nat) (fk fp : Int32) (rws : Nat → Int32) (cd : Nat → Int64) (ds wc : Nat → Int32) (wd : Nat → Int64) (nn : Nat) (nE : Nat → Int32) (nC : Nat → Int64) (nK : Nat → Int32) (nO : Nat → Int64) (ln : Nat) (lF : Nat → Int32) (lC : Nat → Int64) (lT : Nat → Int32) (lO : Nat → Int64) (fn : Nat) (fC : Nat → Int64) (fP : Nat → Int32) (ak : Nat → Int64) (ac : Nat) (pt : Nat → Int32) (hT : mAt M a th sg sn pr fk fp rws cd ds wc wd nn nE nC nK nO ln lF lC lT lO fn fC fP ak ac pt) (rw : Nat → Nat) (hrw : mR rws rw) (ee i : Nat) (hee : ee < 4) (hi : i < rw ee) : xC l xcl yM_below (xw (Cond.code yM_below bM_below 5 (some .int))) ({ frames := 1, cells := 0, slots := 0, locals := 23 } : Room) [.ref (a), .int (nI (ee)), .int (nI (40 * ee + i))] nx M (x_is (some (.int (nI (mBl ds (40 * ee) (rw ee) i)))) nx M) := by
  obtain ⟨h0, h1, h2, h3, h4, h5, h6, h7, h8, h9, h10, h11, h12, h13, h14, h15, h16, h17, h18, b1, b2, b3, b4, b5, b6⟩ := id hT
  refine yC (by decide) (Nat.le_of_ble_eq_true rfl) ?_
  intro p e s m args below meth c D F hr hn
  have loop : ∀ (k : Nat) (j cq : Nat), j + k = rw ee → cq ≤ j → ct (fun j => decide (mUp ds (40 * ee) j = some i)) (rw ee - (i + 1)) (i + 1) 0 = ct (fun j => decide (mUp ds (40 * ee) j = some i)) k j cq → xW p l e ({ frames := 1, cells := 0, slots := 0, locals := 23 } : Room) s m args below meth c D xcl (x_A M nx) 5 (MQ below (x_Q D xcl (x_A M nx) (x_is (some (.int (nI (mBl ds (40 * ee) (rw ee) i)))) nx M)) args s 0 0 (x_A M nx)) 0 0 (nx) M 7 [(4, .int (nI (40 * ee + j))), (3, .int (nI (cq))), (0, .ref (a)), (1, .int (nI (ee))), (2, .int (nI (40 * ee + i)))] [] := by
    intro k
    induction k with
    | zero =>
      intro j cq hj hc hf
      have hr40 := (hrw ee (by omega)).2
      refine x_iload F 0 dM_below_7 rfl ?_
      refine x_bipush F (v := nI (40)) dM_below_9 (by decide) ?_
      refine x_iload_n F 3 dM_below_11 rfl rfl ?_
      refine x_imul F dM_below_12 ?_
      refine xW.toi (nI ((40) * (ee))) (pk_mul _ _) ?_
      refine x_aload_n F 2 dM_below_13 rfl rfl ?_
      refine x_get (ci := 6) F 6 (x_in inM) rfl (by decide) (x_m kfM_17) dM_below_14 h0 rfl ?_
      refine x_iload_n F 3 dM_below_17 rfl rfl ?_
      refine x_iald F dM_below_18 h2 (pk_in (ee) (4) (by omega)) ?_
      refine xW.toi (nI (rw ee)) (by rw [nI_clamp (by omega)]; exact (hrw _ (by omega)).1) ?_
      refine x_iadd F dM_below_19 ?_
      refine xW.toi (nI ((40) * (ee) + rw ee)) (nI_add _ _) ?_
      refine x_icmp_ge F (tgt := 51) dM_below_20 (by decide) (fun c1 => ?_) (fun c1 => ?_)
      · skip
        have c1 : (40) * (ee) + rw ee ≤ 40 * ee + j := by
          exact (nI_leI (a := (40) * (ee) + rw ee) (b := 40 * ee + j) (by omega) (by omega)).mp c1
        refine x_iload_n F 1 dM_below_51 rfl rfl ?_
        exact x_iret F hr dM_below_52 (x_e (by rw [mBl, hf]; rfl))
      · skip
        have c1 : 40 * ee + j < (40) * (ee) + rw ee := by
          have z : ¬ ((40) * (ee) + rw ee ≤ 40 * ee + j) := fun zz => c1 ((nI_leI (a := (40) * (ee) + rw ee) (b := 40 * ee + j) (by omega) (by omega)).mpr zz)
          omega
        exact absurd c1 (by omega)
    | succ k ih =>
      intro j cq hj hc hf
      have hr40 := (hrw ee (by omega)).2
      refine x_iload F 0 dM_below_7 rfl ?_
      refine x_bipush F (v := nI (40)) dM_below_9 (by decide) ?_
      refine x_iload_n F 3 dM_below_11 rfl rfl ?_
      refine x_imul F dM_below_12 ?_
      refine xW.toi (nI ((40) * (ee))) (pk_mul _ _) ?_
      refine x_aload_n F 2 dM_below_13 rfl rfl ?_
      refine x_get (ci := 6) F 6 (x_in inM) rfl (by decide) (x_m kfM_17) dM_below_14 h0 rfl ?_
      refine x_iload_n F 3 dM_below_17 rfl rfl ?_
      refine x_iald F dM_below_18 h2 (pk_in (ee) (4) (by omega)) ?_
      refine xW.toi (nI (rw ee)) (by rw [nI_clamp (by omega)]; exact (hrw _ (by omega)).1) ?_
      refine x_iadd F dM_below_19 ?_
      refine xW.toi (nI ((40) * (ee) + rw ee)) (nI_add _ _) ?_
      refine x_icmp_ge F (tgt := 51) dM_below_20 (by decide) (fun c2 => ?_) (fun c2 => ?_)
      · skip
        have c2 : (40) * (ee) + rw ee ≤ 40 * ee + j := by
          exact (nI_leI (a := (40) * (ee) + rw ee) (b := 40 * ee + j) (by omega) (by omega)).mp c2
        exact absurd c2 (by omega)
      · skip
        have c2 : 40 * ee + j < (40) * (ee) + rw ee := by
          have z : ¬ ((40) * (ee) + rw ee ≤ 40 * ee + j) := fun zz => c2 ((nI_leI (a := (40) * (ee) + rw ee) (b := 40 * ee + j) (by omega) (by omega)).mpr zz)
          omega
        refine x_iload_n F 1 dM_below_23 rfl rfl ?_
        refine x_aload_n F 2 dM_below_24 rfl rfl ?_
        refine x_bipush F (v := nI (40)) dM_below_25 (by decide) ?_
        refine x_iload_n F 3 dM_below_27 rfl rfl ?_
        refine x_imul F dM_below_28 ?_
        refine xW.toi (nI ((40) * (ee))) (pk_mul _ _) ?_
        refine x_iload F 0 dM_below_29 rfl ?_
        refine yV (n := 2) (As := [.int (nI ((40) * (ee))), .int (nI (40 * ee + j))]) (ci := 6) F kmM_123 kiM_above ksM_above knM kcM_above (by decide +kernel) dM_below_31 (cM_above l (nx) M (a) th sg sn pr fk fp rws cd ds wc wd nn nE nC nK nO ln lF lC lT lO fn fC fP ak ac pt hT (40 * ee) j (by omega)) rfl h0 rfl rfl (Nat.le_of_ble_eq_true rfl) ⟨Nat.le_of_ble_eq_true rfl, Nat.le_of_ble_eq_true rfl⟩ ⟨Nat.le_of_ble_eq_true rfl, Nat.le_of_ble_eq_true rfl⟩ ?_
        rcases o_cases (mUp ds (40 * ee) j) with hup | ⟨t, hup⟩
        · skip
          refine xW.ste (st' := [.int ((-1)), .int (nI (cq))]) (by show ([.int (oj (40 * ee) (mUp ds (40 * ee) j)), .int (nI (cq))] : List Value) = _; rw [hup]; rfl) ?_
          refine x_iload_n F 4 dM_below_34 rfl rfl ?_
          refine x_icmp_ne F (tgt := 42) dM_below_35 (by decide) (fun c3 => ?_) (fun c3 => ?_)
          · skip
            refine x_iconst F (v := nI (0)) dM_below_42 (by decide) ?_
            refine x_iadd F dM_below_43 ?_
            refine xW.toi (nI (cq + 0)) (nI_add _ _) ?_
            refine x_istore_n F [(3, .int (nI (cq + 0))), (4, .int (nI (40 * ee + j))), (0, .ref (a)), (1, .int (nI (ee))), (2, .int (nI (40 * ee + i)))] dM_below_44 rfl (by decide) rfl ?_
            refine x_iinc F 1 [(4, .int (nI (40 * ee + j + 1))), (3, .int (nI (cq + 0))), (0, .ref (a)), (1, .int (nI (ee))), (2, .int (nI (40 * ee + i)))] dM_below_45 rfl (nI_add (40 * ee + j) 1) (by decide) rfl ?_
            refine x_goto F (tgt := 7) dM_below_48 (by decide) ?_
            exact ih (j + 1) cq (by omega) (by omega) (by rw [hf, ct_s, if_neg (by rw [hup]; simp; try omega)])
          · skip
            exact absurd c3.symm (nI_m1 (by omega))
        · skip
          have ht := mUp_lt hup
          refine xW.ste (st' := [.int (nI (40 * ee + t)), .int (nI (cq))]) (by show ([.int (oj (40 * ee) (mUp ds (40 * ee) j)), .int (nI (cq))] : List Value) = _; rw [hup]; rfl) ?_
          refine x_iload_n F 4 dM_below_34 rfl rfl ?_
          refine x_icmp_ne F (tgt := 42) dM_below_35 (by decide) (fun c4 => ?_) (fun c4 => ?_)
          · skip
            have c4 : 40 * ee + t ≠ 40 * ee + i := by
              have z : ¬ (40 * ee + t = 40 * ee + i) := fun zz => c4 ((nI_eq (a := 40 * ee + t) (b := 40 * ee + i) (by omega) (by omega)).mpr zz)
              omega
            refine x_iconst F (v := nI (0)) dM_below_42 (by decide) ?_
            refine x_iadd F dM_below_43 ?_
            refine xW.toi (nI (cq + 0)) (nI_add _ _) ?_
            refine x_istore_n F [(3, .int (nI (cq + 0))), (4, .int (nI (40 * ee + j))), (0, .ref (a)), (1, .int (nI (ee))), (2, .int (nI (40 * ee + i)))] dM_below_44 rfl (by decide) rfl ?_
            refine x_iinc F 1 [(4, .int (nI (40 * ee + j + 1))), (3, .int (nI (cq + 0))), (0, .ref (a)), (1, .int (nI (ee))), (2, .int (nI (40 * ee + i)))] dM_below_45 rfl (nI_add (40 * ee + j) 1) (by decide) rfl ?_
            refine x_goto F (tgt := 7) dM_below_48 (by decide) ?_
            exact ih (j + 1) cq (by omega) (by omega) (by rw [hf, ct_s, if_neg (by rw [hup]; simp; try omega)])
          · skip
            have c4 : 40 * ee + t = 40 * ee + i := by
              exact (nI_eq (a := 40 * ee + t) (b := 40 * ee + i) (by omega) (by omega)).mp c4
            refine x_iconst F (v := nI (1)) dM_below_38 (by decide) ?_
            refine x_goto F (tgt := 43) dM_below_39 (by decide) ?_
            refine x_iadd F dM_below_43 ?_
            refine xW.toi (nI (cq + 1)) (nI_add _ _) ?_
            refine x_istore_n F [(3, .int (nI (cq + 1))), (4, .int (nI (40 * ee + j))), (0, .ref (a)), (1, .int (nI (ee))), (2, .int (nI (40 * ee + i)))] dM_below_44 rfl (by decide) rfl ?_
            refine x_iinc F 1 [(4, .int (nI (40 * ee + j + 1))), (3, .int (nI (cq + 1))), (0, .ref (a)), (1, .int (nI (ee))), (2, .int (nI (40 * ee + i)))] dM_below_45 rfl (nI_add (40 * ee + j) 1) (by decide) rfl ?_
            refine x_goto F (tgt := 7) dM_below_48 (by decide) ?_
            exact ih (j + 1) (cq + 1) (by omega) (by omega) (by rw [hf, ct_s, if_pos (by rw [hup]; simp; omega)])
  refine x_iconst F (v := nI (0)) dM_below_0 (by decide) ?_
  refine x_istore_n F [(3, .int (nI (0))), (0, .ref (a)), (1, .int (nI (ee))), (2, .int (nI (40 * ee + i)))] dM_below_1 rfl (by decide) rfl ?_
  refine x_iload_n F 3 dM_below_2 rfl rfl ?_
  refine x_iconst F (v := nI (1)) dM_below_3 (by decide) ?_
  refine x_iadd F dM_below_4 ?_
  refine xW.toi (nI (40 * ee + i + 1)) (nI_add _ _) ?_
  refine x_istore F [(4, .int (nI (40 * ee + i + 1))), (3, .int (nI (0))), (0, .ref (a)), (1, .int (nI (ee))), (2, .int (nI (40 * ee + i)))] dM_below_5 (by decide) rfl ?_
  exact loop (rw ee - (i + 1)) (i + 1) 0 (by omega) (by omega) rfl
set_option maxHeartbeats 4000000 in
set_option maxRecDepth 100000 in
theorem cM_rowOf (l : Launch) (nx : Nat) (M : xH) (a : Nat) (th : Int32) (sg : Nat → Int32) (sn pr : Nat) (fk fp : Int32) (rws : Nat → Int32) (cd : Nat → Int64) (ds wc : Nat → Int32) (wd : Nat → Int64) (nn : Nat) (nE : Nat → Int32) (nC : Nat → Int64) (nK : Nat → Int32) (nO : Nat → Int64) (ln : Nat) (lF : Nat → Int32) (lC : Nat → Int64) (lT : Nat → Int32) (lO : Nat → Int64) (fn : Nat) (fC : Nat → Int64) (fP : Nat → Int32) (ak : Nat → Int64) (ac : Nat) (pt : Nat → Int32) (hT : mAt M a th sg sn pr fk fp rws cd ds wc wd nn nE nC nK nO ln lF lC lT lO fn fC fP ak ac pt) (rw : Nat → Nat) (hrw : mR rws rw) (ee : Nat) (hee : ee < 4) (co : Int64) : xC l xcl yM_rowOf (xw (Cond.code yM_rowOf bM_rowOf 6 (some .int))) ({ frames := 0, cells := 0, slots := 0, locals := 0 } : Room) [.ref (a), .int (nI (ee)), .long (co)] nx M (x_is (some (.int (oi (mRow rw cd ee co)))) nx M) := by
  obtain ⟨h0, h1, h2, h3, h4, h5, h6, h7, h8, h9, h10, h11, h12, h13, h14, h15, h16, h17, h18, b1, b2, b3, b4, b5, b6⟩ := id hT
  refine yC (by decide) (Nat.le_of_ble_eq_true rfl) ?_
  intro p e s m args below meth c D F hr hn
  have loop : ∀ (k : Nat) (i : Nat), i + k = rw ee → xW p l e ({ frames := 0, cells := 0, slots := 0, locals := 0 } : Room) s m args below meth c D xcl (x_A M nx) 6 (MQ below (x_Q D xcl (x_A M nx) (x_is (some (.int (oi (mRow rw cd ee co)))) nx M)) args s 0 0 (x_A M nx)) 0 0 (nx) M 6 [(5, .int (nI (i))), (4, .int (oi (la (fun k => decide (cd (40 * ee + k) = co)) i))), (0, .ref (a)), (1, .int (nI (ee))), (2, .long (co))] [] := by
    intro k
    induction k with
    | zero =>
      intro i hi
      have hr40 := (hrw ee (by omega)).2
      refine x_iload F 0 dM_rowOf_6 rfl ?_
      refine x_aload_n F 2 dM_rowOf_8 rfl rfl ?_
      refine x_get (ci := 6) F 6 (x_in inM) rfl (by decide) (x_m kfM_17) dM_rowOf_9 h0 rfl ?_
      refine x_iload_n F 3 dM_rowOf_12 rfl rfl ?_
      refine x_iald F dM_rowOf_13 h2 (pk_in (ee) (4) (by omega)) ?_
      refine xW.toi (nI (rw ee)) (by rw [nI_clamp (by omega)]; exact (hrw _ (by omega)).1) ?_
      refine x_icmp_ge F (tgt := 49) dM_rowOf_14 (by decide) (fun c1 => ?_) (fun c1 => ?_)
      · skip
        have c1 : rw ee ≤ i := by
          exact (nI_leI (a := rw ee) (b := i) (by omega) (by omega)).mp c1
        refine x_iload F 1 dM_rowOf_49 rfl ?_
        exact x_iret F hr dM_rowOf_51 (x_e (by rw [mRow, show i = rw ee by omega]))
      · skip
        have c1 : i < rw ee := by
          have z : ¬ (rw ee ≤ i) := fun zz => c1 ((nI_leI (a := rw ee) (b := i) (by omega) (by omega)).mpr zz)
          omega
        exact absurd c1 (by omega)
    | succ k ih =>
      intro i hi
      have hr40 := (hrw ee (by omega)).2
      refine x_iload F 0 dM_rowOf_6 rfl ?_
      refine x_aload_n F 2 dM_rowOf_8 rfl rfl ?_
      refine x_get (ci := 6) F 6 (x_in inM) rfl (by decide) (x_m kfM_17) dM_rowOf_9 h0 rfl ?_
      refine x_iload_n F 3 dM_rowOf_12 rfl rfl ?_
      refine x_iald F dM_rowOf_13 h2 (pk_in (ee) (4) (by omega)) ?_
      refine xW.toi (nI (rw ee)) (by rw [nI_clamp (by omega)]; exact (hrw _ (by omega)).1) ?_
      refine x_icmp_ge F (tgt := 49) dM_rowOf_14 (by decide) (fun c2 => ?_) (fun c2 => ?_)
      · skip
        have c2 : rw ee ≤ i := by
          exact (nI_leI (a := rw ee) (b := i) (by omega) (by omega)).mp c2
        exact absurd c2 (by omega)
      · skip
        have c2 : i < rw ee := by
          have z : ¬ (rw ee ≤ i) := fun zz => c2 ((nI_leI (a := rw ee) (b := i) (by omega) (by omega)).mpr zz)
          omega
        refine x_aload_n F 2 dM_rowOf_17 rfl rfl ?_
        refine x_get (ci := 6) F 7 (x_in inM) rfl (by decide) (x_m kfM_20) dM_rowOf_18 h0 rfl ?_
        refine x_bipush F (v := nI (40)) dM_rowOf_21 (by decide) ?_
        refine x_iload_n F 3 dM_rowOf_23 rfl rfl ?_
        refine x_imul F dM_rowOf_24 ?_
        refine xW.toi (nI ((40) * (ee))) (pk_mul _ _) ?_
        refine x_iload F 0 dM_rowOf_25 rfl ?_
        refine x_iadd F dM_rowOf_27 ?_
        refine xW.toi (nI ((40) * (ee) + i)) (nI_add _ _) ?_
        refine x_lald F dM_rowOf_28 h3 (pk_in ((40) * (ee) + i) (160) (by omega)) ?_
        refine xW.tol ((cd) ((40) * (ee) + i)) (by rw [nI_clamp (by omega)]) ?_
        refine x_lload_n F 4 dM_rowOf_29 rfl rfl ?_
        refine x_lcmp F dM_rowOf_30 ?_
        refine x_if_ne F (tgt := 39) dM_rowOf_31 (by decide) (fun c3 => ?_) (fun c3 => ?_)
        · skip
          have c3 : ¬ (cd) ((40) * (ee) + i) = co := fun z => c3 ((lg_cmp_eq ((cd) ((40) * (ee) + i)) (co)).mpr z)
          refine x_iload F 1 dM_rowOf_39 rfl ?_
          refine x_istore F [(4, .int (oi (la (fun k => decide (cd (40 * ee + k) = co)) i))), (5, .int (nI (i))), (0, .ref (a)), (1, .int (nI (ee))), (2, .long (co))] dM_rowOf_41 (by decide) rfl ?_
          refine x_iinc F 1 [(5, .int (nI (i + 1))), (4, .int (oi (la (fun k => decide (cd (40 * ee + k) = co)) i))), (0, .ref (a)), (1, .int (nI (ee))), (2, .long (co))] dM_rowOf_43 rfl (nI_add (i) 1) (by decide) rfl ?_
          refine x_goto F (tgt := 6) dM_rowOf_46 (by decide) ?_
          exact xW.lve (lv' := [(5, .int (nI (i + 1))), (4, .int (oi (la (fun k => decide (cd (40 * ee + k) = co)) (i + 1)))), (0, .ref (a)), (1, .int (nI (ee))), (2, .long (co))]) (by rw [la_s, if_neg (by simpa using c3)]) (ih (i + 1) (by omega))
        · skip
          have c3 : (cd) ((40) * (ee) + i) = co := (lg_cmp_eq ((cd) ((40) * (ee) + i)) (co)).mp c3
          refine x_iload F 0 dM_rowOf_34 rfl ?_
          refine x_goto F (tgt := 41) dM_rowOf_36 (by decide) ?_
          refine x_istore F [(4, .int (nI (i))), (5, .int (nI (i))), (0, .ref (a)), (1, .int (nI (ee))), (2, .long (co))] dM_rowOf_41 (by decide) rfl ?_
          refine x_iinc F 1 [(5, .int (nI (i + 1))), (4, .int (nI (i))), (0, .ref (a)), (1, .int (nI (ee))), (2, .long (co))] dM_rowOf_43 rfl (nI_add (i) 1) (by decide) rfl ?_
          refine x_goto F (tgt := 6) dM_rowOf_46 (by decide) ?_
          exact xW.lve (lv' := [(5, .int (nI (i + 1))), (4, .int (oi (la (fun k => decide (cd (40 * ee + k) = co)) (i + 1)))), (0, .ref (a)), (1, .int (nI (ee))), (2, .long (co))]) (by rw [la_s, if_pos (by simpa using c3)] <;> rfl) (ih (i + 1) (by omega))
  refine x_iconst F (v := (-1)) dM_rowOf_0 (by decide) ?_
  refine x_istore F [(4, .int ((-1))), (0, .ref (a)), (1, .int (nI (ee))), (2, .long (co))] dM_rowOf_1 (by decide) rfl ?_
  refine x_iconst F (v := nI (0)) dM_rowOf_3 (by decide) ?_
  refine x_istore F [(5, .int (nI (0))), (4, .int ((-1))), (0, .ref (a)), (1, .int (nI (ee))), (2, .long (co))] dM_rowOf_4 (by decide) rfl ?_
  exact loop (rw ee) 0 (by omega)
set_option maxHeartbeats 4000000 in
set_option maxRecDepth 100000 in
theorem cM_notesOf (l : Launch) (nx : Nat) (M : xH) (a : Nat) (th : Int32) (sg : Nat → Int32) (sn pr : Nat) (fk fp : Int32) (rws : Nat → Int32) (cd : Nat → Int64) (ds wc : Nat → Int32) (wd : Nat → Int64) (nn : Nat) (nE : Nat → Int32) (nC : Nat → Int64) (nK : Nat → Int32) (nO : Nat → Int64) (ln : Nat) (lF : Nat → Int32) (lC : Nat → Int64) (lT : Nat → Int32) (lO : Nat → Int64) (fn : Nat) (fC : Nat → Int64) (fP : Nat → Int32) (ak : Nat → Int64) (ac : Nat) (pt : Nat → Int32) (hT : mAt M a th sg sn pr fk fp rws cd ds wc wd nn nE nC nK nO ln lF lC lT lO fn fC fP ak ac pt) (e0 : Int32) : xC l xcl yM_notesOf (xw (Cond.code yM_notesOf bM_notesOf 4 (some .int))) ({ frames := 0, cells := 0, slots := 0, locals := 0 } : Room) [.ref (a), .int (e0)] nx M (x_is (some (.int (nI (ct (fun j => decide (nE j = e0)) nn 0 0)))) nx M) := by
  obtain ⟨h0, h1, h2, h3, h4, h5, h6, h7, h8, h9, h10, h11, h12, h13, h14, h15, h16, h17, h18, b1, b2, b3, b4, b5, b6⟩ := id hT
  refine yC (by decide) (Nat.le_of_ble_eq_true rfl) ?_
  intro p e s m args below meth c D F hr hn
  have loop : ∀ (k : Nat) (i cq : Nat), i + k = nn → cq ≤ i → ct (fun j => decide (nE j = e0)) nn 0 0 = ct (fun j => decide (nE j = e0)) k i cq → xW p l e ({ frames := 0, cells := 0, slots := 0, locals := 0 } : Room) s m args below meth c D xcl (x_A M nx) 4 (MQ below (x_Q D xcl (x_A M nx) (x_is (some (.int (nI (ct (fun j => decide (nE j = e0)) nn 0 0)))) nx M)) args s 0 0 (x_A M nx)) 0 0 (nx) M 4 [(3, .int (nI (i))), (2, .int (nI (cq))), (0, .ref (a)), (1, .int (e0))] [] := by
    intro k
    induction k with
    | zero =>
      intro i cq hi hc hf
      refine x_iload_n F 0 dM_notesOf_4 rfl rfl ?_
      refine x_aload_n F 2 dM_notesOf_5 rfl rfl ?_
      refine x_get (ci := 6) F 11 (x_in inM) rfl (by decide) (x_m kfM_142) dM_notesOf_6 h0 rfl ?_
      refine x_icmp_ge F (tgt := 36) dM_notesOf_9 (by decide) (fun c1 => ?_) (fun c1 => ?_)
      · skip
        have c1 : nn ≤ i := by
          exact (nI_leI (a := nn) (b := i) (by omega) (by omega)).mp c1
        refine x_iload_n F 1 dM_notesOf_36 rfl rfl ?_
        exact x_iret F hr dM_notesOf_37 (x_e (by rw [hf]; rfl))
      · skip
        have c1 : i < nn := by
          have z : ¬ (nn ≤ i) := fun zz => c1 ((nI_leI (a := nn) (b := i) (by omega) (by omega)).mpr zz)
          omega
        exact absurd c1 (by omega)
    | succ k ih =>
      intro i cq hi hc hf
      refine x_iload_n F 0 dM_notesOf_4 rfl rfl ?_
      refine x_aload_n F 2 dM_notesOf_5 rfl rfl ?_
      refine x_get (ci := 6) F 11 (x_in inM) rfl (by decide) (x_m kfM_142) dM_notesOf_6 h0 rfl ?_
      refine x_icmp_ge F (tgt := 36) dM_notesOf_9 (by decide) (fun c2 => ?_) (fun c2 => ?_)
      · skip
        have c2 : nn ≤ i := by
          exact (nI_leI (a := nn) (b := i) (by omega) (by omega)).mp c2
        exact absurd c2 (by omega)
      · skip
        have c2 : i < nn := by
          have z : ¬ (nn ≤ i) := fun zz => c2 ((nI_leI (a := nn) (b := i) (by omega) (by omega)).mpr zz)
          omega
        refine x_iload_n F 1 dM_notesOf_12 rfl rfl ?_
        refine x_aload_n F 2 dM_notesOf_13 rfl rfl ?_
        refine x_get (ci := 6) F 12 (x_in inM) rfl (by decide) (x_m kfM_33) dM_notesOf_14 h0 rfl ?_
        refine x_iload_n F 0 dM_notesOf_17 rfl rfl ?_
        refine x_iald F dM_notesOf_18 h7 (pk_in (i) (20) (by omega)) ?_
        refine xW.toi ((nE) (i)) (by rw [nI_clamp (by omega)]) ?_
        refine x_iload_n F 3 dM_notesOf_19 rfl rfl ?_
        refine x_icmp_ne F (tgt := 27) dM_notesOf_20 (by decide) (fun c3 => ?_) (fun c3 => ?_)
        · skip
          refine x_iconst F (v := nI (0)) dM_notesOf_27 (by decide) ?_
          refine x_iadd F dM_notesOf_28 ?_
          refine xW.toi (nI (cq + 0)) (nI_add _ _) ?_
          refine x_istore_n F [(2, .int (nI (cq + 0))), (3, .int (nI (i))), (0, .ref (a)), (1, .int (e0))] dM_notesOf_29 rfl (by decide) rfl ?_
          refine x_iinc F 1 [(3, .int (nI (i + 1))), (2, .int (nI (cq + 0))), (0, .ref (a)), (1, .int (e0))] dM_notesOf_30 rfl (nI_add (i) 1) (by decide) rfl ?_
          refine x_goto F (tgt := 4) dM_notesOf_33 (by decide) ?_
          exact ih (i + 1) cq (by omega) (by omega) (by rw [hf, ct_s, if_neg (by simpa using c3)])
        · skip
          refine x_iconst F (v := nI (1)) dM_notesOf_23 (by decide) ?_
          refine x_goto F (tgt := 28) dM_notesOf_24 (by decide) ?_
          refine x_iadd F dM_notesOf_28 ?_
          refine xW.toi (nI (cq + 1)) (nI_add _ _) ?_
          refine x_istore_n F [(2, .int (nI (cq + 1))), (3, .int (nI (i))), (0, .ref (a)), (1, .int (e0))] dM_notesOf_29 rfl (by decide) rfl ?_
          refine x_iinc F 1 [(3, .int (nI (i + 1))), (2, .int (nI (cq + 1))), (0, .ref (a)), (1, .int (e0))] dM_notesOf_30 rfl (nI_add (i) 1) (by decide) rfl ?_
          refine x_goto F (tgt := 4) dM_notesOf_33 (by decide) ?_
          exact ih (i + 1) (cq + 1) (by omega) (by omega) (by rw [hf, ct_s, if_pos (by simpa using c3)])
  refine x_iconst F (v := nI (0)) dM_notesOf_0 (by decide) ?_
  refine x_istore_n F [(2, .int (nI (0))), (0, .ref (a)), (1, .int (e0))] dM_notesOf_1 rfl (by decide) rfl ?_
  refine x_iconst F (v := nI (0)) dM_notesOf_2 (by decide) ?_
  refine x_istore_n F [(3, .int (nI (0))), (2, .int (nI (0))), (0, .ref (a)), (1, .int (e0))] dM_notesOf_3 rfl (by decide) rfl ?_
  exact loop nn 0 0 (by omega) (by omega) rfl
set_option maxHeartbeats 4000000 in
set_option maxRecDepth 100000 in
theorem cM_isNote (l : Launch) (nx : Nat) (M : xH) (a : Nat) (th : Int32) (sg : Nat → Int32) (sn pr : Nat) (fk fp : Int32) (rws : Nat → Int32) (cd : Nat → Int64) (ds wc : Nat → Int32) (wd : Nat → Int64) (nn : Nat) (nE : Nat → Int32) (nC : Nat → Int64) (nK : Nat → Int32) (nO : Nat → Int64) (ln : Nat) (lF : Nat → Int32) (lC : Nat → Int64) (lT : Nat → Int32) (lO : Nat → Int64) (fn : Nat) (fC : Nat → Int64) (fP : Nat → Int32) (ak : Nat → Int64) (ac : Nat) (pt : Nat → Int32) (hT : mAt M a th sg sn pr fk fp rws cd ds wc wd nn nE nC nK nO ln lF lC lT lO fn fC fP ak ac pt) (j : Nat) (hj : j < 20) (co : Int64) (kd : Int32) (oo : Int64) : xC l xcl yM_isNote (xw (Cond.code yM_isNote bM_isNote 7 (some .boolean))) ({ frames := 0, cells := 0, slots := 0, locals := 0 } : Room) [.ref (a), .int (nI (j)), .long (co), .int (kd), .long (oo)] nx M (x_is (some (.int (bI (mNt nE nC nK nO (nI pr) co kd oo j)))) nx M) := by
  obtain ⟨h0, h1, h2, h3, h4, h5, h6, h7, h8, h9, h10, h11, h12, h13, h14, h15, h16, h17, h18, b1, b2, b3, b4, b5, b6⟩ := id hT
  refine yC (by decide) (Nat.le_of_ble_eq_true rfl) ?_
  intro p e s m args below meth c D F hr hn
  refine x_aload_n F 0 dM_isNote_0 rfl rfl ?_
  refine x_get (ci := 6) F 12 (x_in inM) rfl (by decide) (x_m kfM_33) dM_isNote_1 h0 rfl ?_
  refine x_iload_n F 1 dM_isNote_4 rfl rfl ?_
  refine x_iald F dM_isNote_5 h7 (pk_in (j) (20) (by omega)) ?_
  refine xW.toi ((nE) (j)) (by rw [nI_clamp (by omega)]) ?_
  refine x_aload_n F 0 dM_isNote_6 rfl rfl ?_
  refine x_get (ci := 6) F 3 (x_in inM) rfl (by decide) (x_m kfM_156) dM_isNote_7 h0 rfl ?_
  refine x_icmp_ne F (tgt := 51) dM_isNote_10 (by decide) (fun c1 => ?_) (fun c1 => ?_)
  · skip
    refine x_iconst F (v := nI (0)) dM_isNote_51 (by decide) ?_
    exact x_zret F hr (by rfl) dM_isNote_52 (x_f (by simp [mNt, c1]))
  · skip
    refine x_aload_n F 0 dM_isNote_13 rfl rfl ?_
    refine x_get (ci := 6) F 13 (x_in inM) rfl (by decide) (x_m kfM_36) dM_isNote_14 h0 rfl ?_
    refine x_iload_n F 1 dM_isNote_17 rfl rfl ?_
    refine x_lald F dM_isNote_18 h8 (pk_in (j) (20) (by omega)) ?_
    refine xW.tol ((nC) (j)) (by rw [nI_clamp (by omega)]) ?_
    refine x_lload_n F 2 dM_isNote_19 rfl rfl ?_
    refine x_lcmp F dM_isNote_20 ?_
    refine x_if_ne F (tgt := 51) dM_isNote_21 (by decide) (fun c2 => ?_) (fun c2 => ?_)
    · skip
      have c2 : ¬ (nC) (j) = co := fun z => c2 ((lg_cmp_eq ((nC) (j)) (co)).mpr z)
      refine x_iconst F (v := nI (0)) dM_isNote_51 (by decide) ?_
      exact x_zret F hr (by rfl) dM_isNote_52 (x_f (by simp [mNt, c2]))
    · skip
      have c2 : (nC) (j) = co := (lg_cmp_eq ((nC) (j)) (co)).mp c2
      refine x_aload_n F 0 dM_isNote_24 rfl rfl ?_
      refine x_get (ci := 6) F 14 (x_in inM) rfl (by decide) (x_m kfM_39) dM_isNote_25 h0 rfl ?_
      refine x_iload_n F 1 dM_isNote_28 rfl rfl ?_
      refine x_iald F dM_isNote_29 h9 (pk_in (j) (20) (by omega)) ?_
      refine xW.toi ((nK) (j)) (by rw [nI_clamp (by omega)]) ?_
      refine x_iload F 3 dM_isNote_30 rfl ?_
      refine x_icmp_ne F (tgt := 51) dM_isNote_32 (by decide) (fun c3 => ?_) (fun c3 => ?_)
      · skip
        refine x_iconst F (v := nI (0)) dM_isNote_51 (by decide) ?_
        exact x_zret F hr (by rfl) dM_isNote_52 (x_f (by simp [mNt, c3]))
      · skip
        refine x_aload_n F 0 dM_isNote_35 rfl rfl ?_
        refine x_get (ci := 6) F 15 (x_in inM) rfl (by decide) (x_m kfM_42) dM_isNote_36 h0 rfl ?_
        refine x_iload_n F 1 dM_isNote_39 rfl rfl ?_
        refine x_lald F dM_isNote_40 h10 (pk_in (j) (20) (by omega)) ?_
        refine xW.tol ((nO) (j)) (by rw [nI_clamp (by omega)]) ?_
        refine x_lload F 4 dM_isNote_41 rfl ?_
        refine x_lcmp F dM_isNote_43 ?_
        refine x_if_ne F (tgt := 51) dM_isNote_44 (by decide) (fun c4 => ?_) (fun c4 => ?_)
        · skip
          have c4 : ¬ (nO) (j) = oo := fun z => c4 ((lg_cmp_eq ((nO) (j)) (oo)).mpr z)
          refine x_iconst F (v := nI (0)) dM_isNote_51 (by decide) ?_
          exact x_zret F hr (by rfl) dM_isNote_52 (x_f (by simp [mNt, c4]))
        · skip
          have c4 : (nO) (j) = oo := (lg_cmp_eq ((nO) (j)) (oo)).mp c4
          refine x_iconst F (v := nI (1)) dM_isNote_47 (by decide) ?_
          refine x_goto F (tgt := 52) dM_isNote_48 (by decide) ?_
          exact x_zret F hr (by rfl) dM_isNote_52 (x_t (by simp [mNt, c1, c2, c3, c4]))
set_option maxHeartbeats 4000000 in
set_option maxRecDepth 100000 in
theorem cM_hasNote (l : Launch) (nx : Nat) (M : xH) (a : Nat) (th : Int32) (sg : Nat → Int32) (sn pr : Nat) (fk fp : Int32) (rws : Nat → Int32) (cd : Nat → Int64) (ds wc : Nat → Int32) (wd : Nat → Int64) (nn : Nat) (nE : Nat → Int32) (nC : Nat → Int64) (nK : Nat → Int32) (nO : Nat → Int64) (ln : Nat) (lF : Nat → Int32) (lC : Nat → Int64) (lT : Nat → Int32) (lO : Nat → Int64) (fn : Nat) (fC : Nat → Int64) (fP : Nat → Int32) (ak : Nat → Int64) (ac : Nat) (pt : Nat → Int32) (hT : mAt M a th sg sn pr fk fp rws cd ds wc wd nn nE nC nK nO ln lF lC lT lO fn fC fP ak ac pt) (co : Int64) (kd : Int32) (oo : Int64) : xC l xcl yM_hasNote (xw (Cond.code yM_hasNote bM_hasNote 8 (some .boolean))) ({ frames := 1, cells := 0, slots := 0, locals := 26 } : Room) [.ref (a), .long (co), .int (kd), .long (oo)] nx M (x_is (some (.int (bI ((la (mNt nE nC nK nO (nI pr) co kd oo) nn).isSome)))) nx M) := by
  obtain ⟨h0, h1, h2, h3, h4, h5, h6, h7, h8, h9, h10, h11, h12, h13, h14, h15, h16, h17, h18, b1, b2, b3, b4, b5, b6⟩ := id hT
  refine yC (by decide) (Nat.le_of_ble_eq_true rfl) ?_
  intro p e s m args below meth c D F hr hn
  have loop : ∀ (k : Nat) (i : Nat), i + k = nn → xW p l e ({ frames := 1, cells := 0, slots := 0, locals := 26 } : Room) s m args below meth c D xcl (x_A M nx) 8 (MQ below (x_Q D xcl (x_A M nx) (x_is (some (.int (bI ((la (mNt nE nC nK nO (nI pr) co kd oo) nn).isSome)))) nx M)) args s 0 0 (x_A M nx)) 0 0 (nx) M 6 [(7, .int (nI (i))), (6, .int (bI (la (mNt nE nC nK nO (nI pr) co kd oo) i).isSome)), (0, .ref (a)), (1, .long (co)), (3, .int (kd)), (4, .long (oo))] [] := by
    intro k
    induction k with
    | zero =>
      intro i hi
      refine x_iload F 0 dM_hasNote_6 rfl ?_
      refine x_aload_n F 2 dM_hasNote_8 rfl rfl ?_
      refine x_get (ci := 6) F 11 (x_in inM) rfl (by decide) (x_m kfM_142) dM_hasNote_9 h0 rfl ?_
      refine x_icmp_ge F (tgt := 46) dM_hasNote_12 (by decide) (fun c1 => ?_) (fun c1 => ?_)
      · skip
        have c1 : nn ≤ i := by
          exact (nI_leI (a := nn) (b := i) (by omega) (by omega)).mp c1
        refine x_iload F 1 dM_hasNote_46 rfl ?_
        exact x_zret F hr (bI_nar _) dM_hasNote_48 (x_e (by rw [show i = nn by omega] <;> rfl))
      · skip
        have c1 : i < nn := by
          have z : ¬ (nn ≤ i) := fun zz => c1 ((nI_leI (a := nn) (b := i) (by omega) (by omega)).mpr zz)
          omega
        exact absurd c1 (by omega)
    | succ k ih =>
      intro i hi
      refine x_iload F 0 dM_hasNote_6 rfl ?_
      refine x_aload_n F 2 dM_hasNote_8 rfl rfl ?_
      refine x_get (ci := 6) F 11 (x_in inM) rfl (by decide) (x_m kfM_142) dM_hasNote_9 h0 rfl ?_
      refine x_icmp_ge F (tgt := 46) dM_hasNote_12 (by decide) (fun c2 => ?_) (fun c2 => ?_)
      · skip
        have c2 : nn ≤ i := by
          exact (nI_leI (a := nn) (b := i) (by omega) (by omega)).mp c2
        exact absurd c2 (by omega)
      · skip
        have c2 : i < nn := by
          have z : ¬ (nn ≤ i) := fun zz => c2 ((nI_leI (a := nn) (b := i) (by omega) (by omega)).mpr zz)
          omega
        refine x_iload F 1 dM_hasNote_15 rfl ?_
        refine x_if_ne F (tgt := 33) dM_hasNote_17 (by decide) (fun c3 => ?_) (fun c3 => ?_)
        · skip
          have c3 : ((la (mNt nE nC nK nO (nI pr) co kd oo) i).isSome) = true := bI_1 c3
          refine x_iconst F (v := nI (1)) dM_hasNote_33 (by decide) ?_
          refine x_goto F (tgt := 38) dM_hasNote_34 (by decide) ?_
          refine x_istore F [(6, .int (nI (1))), (7, .int (nI (i))), (0, .ref (a)), (1, .long (co)), (3, .int (kd)), (4, .long (oo))] dM_hasNote_38 (by decide) rfl ?_
          refine x_iinc F 1 [(7, .int (nI (i + 1))), (6, .int (nI (1))), (0, .ref (a)), (1, .long (co)), (3, .int (kd)), (4, .long (oo))] dM_hasNote_40 rfl (nI_add (i) 1) (by decide) rfl ?_
          refine x_goto F (tgt := 6) dM_hasNote_43 (by decide) ?_
          exact xW.lve (lv' := [(7, .int (nI (i + 1))), (6, .int (bI (la (mNt nE nC nK nO (nI pr) co kd oo) (i + 1)).isSome)), (0, .ref (a)), (1, .long (co)), (3, .int (kd)), (4, .long (oo))]) (by rw [la_or, c3, Bool.or_true]; rfl) (ih (i + 1) (by omega))
        · skip
          have c3 : ((la (mNt nE nC nK nO (nI pr) co kd oo) i).isSome) = false := bI_0 c3
          refine x_aload_n F 2 dM_hasNote_20 rfl rfl ?_
          refine x_iload F 0 dM_hasNote_21 rfl ?_
          refine x_lload_n F 3 dM_hasNote_23 rfl rfl ?_
          refine x_iload_n F 4 dM_hasNote_24 rfl rfl ?_
          refine x_lload F 5 dM_hasNote_25 rfl ?_
          refine yV (n := 4) (As := [.int (nI (i)), .long (co), .int (kd), .long (oo)]) (ci := 6) F kmM_173 kiM_isNote ksM_isNote knM kcM_isNote (by decide +kernel) dM_hasNote_27 (cM_isNote l (nx) M (a) th sg sn pr fk fp rws cd ds wc wd nn nE nC nK nO ln lF lC lT lO fn fC fP ak ac pt hT i (by omega) co kd oo) rfl h0 rfl rfl (Nat.le_of_ble_eq_true rfl) ⟨Nat.le_of_ble_eq_true rfl, Nat.le_of_ble_eq_true rfl⟩ ⟨Nat.le_of_ble_eq_true rfl, Nat.le_of_ble_eq_true rfl⟩ ?_
          refine x_if_eq F (tgt := 37) dM_hasNote_30 (by decide) (fun c4 => ?_) (fun c4 => ?_)
          · skip
            have c4 : (mNt nE nC nK nO (nI pr) co kd oo i) = false := bI_0 c4
            refine x_iconst F (v := nI (0)) dM_hasNote_37 (by decide) ?_
            refine x_istore F [(6, .int (nI (0))), (7, .int (nI (i))), (0, .ref (a)), (1, .long (co)), (3, .int (kd)), (4, .long (oo))] dM_hasNote_38 (by decide) rfl ?_
            refine x_iinc F 1 [(7, .int (nI (i + 1))), (6, .int (nI (0))), (0, .ref (a)), (1, .long (co)), (3, .int (kd)), (4, .long (oo))] dM_hasNote_40 rfl (nI_add (i) 1) (by decide) rfl ?_
            refine x_goto F (tgt := 6) dM_hasNote_43 (by decide) ?_
            exact xW.lve (lv' := [(7, .int (nI (i + 1))), (6, .int (bI (la (mNt nE nC nK nO (nI pr) co kd oo) (i + 1)).isSome)), (0, .ref (a)), (1, .long (co)), (3, .int (kd)), (4, .long (oo))]) (by rw [la_or, c3, show (mNt nE nC nK nO (nI pr) co kd oo) i = false from by simpa using c4]; rfl) (ih (i + 1) (by omega))
          · skip
            have c4 : (mNt nE nC nK nO (nI pr) co kd oo i) = true := bI_1 c4
            refine x_iconst F (v := nI (1)) dM_hasNote_33 (by decide) ?_
            refine x_goto F (tgt := 38) dM_hasNote_34 (by decide) ?_
            refine x_istore F [(6, .int (nI (1))), (7, .int (nI (i))), (0, .ref (a)), (1, .long (co)), (3, .int (kd)), (4, .long (oo))] dM_hasNote_38 (by decide) rfl ?_
            refine x_iinc F 1 [(7, .int (nI (i + 1))), (6, .int (nI (1))), (0, .ref (a)), (1, .long (co)), (3, .int (kd)), (4, .long (oo))] dM_hasNote_40 rfl (nI_add (i) 1) (by decide) rfl ?_
            refine x_goto F (tgt := 6) dM_hasNote_43 (by decide) ?_
            exact xW.lve (lv' := [(7, .int (nI (i + 1))), (6, .int (bI (la (mNt nE nC nK nO (nI pr) co kd oo) (i + 1)).isSome)), (0, .ref (a)), (1, .long (co)), (3, .int (kd)), (4, .long (oo))]) (by rw [la_or, c3, show (mNt nE nC nK nO (nI pr) co kd oo) i = true from by simpa using c4]; rfl) (ih (i + 1) (by omega))
  refine x_iconst F (v := nI (0)) dM_hasNote_0 (by decide) ?_
  refine x_istore F [(6, .int (nI (0))), (0, .ref (a)), (1, .long (co)), (3, .int (kd)), (4, .long (oo))] dM_hasNote_1 (by decide) rfl ?_
  refine x_iconst F (v := nI (0)) dM_hasNote_3 (by decide) ?_
  refine x_istore F [(7, .int (nI (0))), (6, .int (nI (0))), (0, .ref (a)), (1, .long (co)), (3, .int (kd)), (4, .long (oo))] dM_hasNote_4 (by decide) rfl ?_
  exact loop nn 0 (by omega)
set_option maxHeartbeats 4000000 in
set_option maxRecDepth 100000 in
theorem cM_isLink (l : Launch) (nx : Nat) (M : xH) (a : Nat) (th : Int32) (sg : Nat → Int32) (sn pr : Nat) (fk fp : Int32) (rws : Nat → Int32) (cd : Nat → Int64) (ds wc : Nat → Int32) (wd : Nat → Int64) (nn : Nat) (nE : Nat → Int32) (nC : Nat → Int64) (nK : Nat → Int32) (nO : Nat → Int64) (ln : Nat) (lF : Nat → Int32) (lC : Nat → Int64) (lT : Nat → Int32) (lO : Nat → Int64) (fn : Nat) (fC : Nat → Int64) (fP : Nat → Int32) (ak : Nat → Int64) (ac : Nat) (pt : Nat → Int32) (hT : mAt M a th sg sn pr fk fp rws cd ds wc wd nn nE nC nK nO ln lF lC lT lO fn fC fP ak ac pt) (j : Nat) (hj : j < 60) (aa : Int32) (co : Int64) (bb : Int32) : xC l xcl yM_isLink (xw (Cond.code yM_isLink bM_isLink 6 (some .boolean))) ({ frames := 0, cells := 0, slots := 0, locals := 0 } : Room) [.ref (a), .int (nI (j)), .int (aa), .long (co), .int (bb)] nx M (x_is (some (.int (bI (mLk lF lC lT aa co bb j)))) nx M) := by
  obtain ⟨h0, h1, h2, h3, h4, h5, h6, h7, h8, h9, h10, h11, h12, h13, h14, h15, h16, h17, h18, b1, b2, b3, b4, b5, b6⟩ := id hT
  refine yC (by decide) (Nat.le_of_ble_eq_true rfl) ?_
  intro p e s m args below meth c D F hr hn
  refine x_aload_n F 0 dM_isLink_0 rfl rfl ?_
  refine x_get (ci := 6) F 17 (x_in inM) rfl (by decide) (x_m kfM_45) dM_isLink_1 h0 rfl ?_
  refine x_iload_n F 1 dM_isLink_4 rfl rfl ?_
  refine x_iald F dM_isLink_5 h11 (pk_in (j) (60) (by omega)) ?_
  refine xW.toi ((lF) (j)) (by rw [nI_clamp (by omega)]) ?_
  refine x_iload_n F 2 dM_isLink_6 rfl rfl ?_
  refine x_icmp_ne F (tgt := 36) dM_isLink_7 (by decide) (fun c1 => ?_) (fun c1 => ?_)
  · skip
    refine x_iconst F (v := nI (0)) dM_isLink_36 (by decide) ?_
    exact x_zret F hr (by rfl) dM_isLink_37 (x_f (by simp [mLk, c1]))
  · skip
    refine x_aload_n F 0 dM_isLink_10 rfl rfl ?_
    refine x_get (ci := 6) F 18 (x_in inM) rfl (by decide) (x_m kfM_48) dM_isLink_11 h0 rfl ?_
    refine x_iload_n F 1 dM_isLink_14 rfl rfl ?_
    refine x_lald F dM_isLink_15 h12 (pk_in (j) (60) (by omega)) ?_
    refine xW.tol ((lC) (j)) (by rw [nI_clamp (by omega)]) ?_
    refine x_lload_n F 3 dM_isLink_16 rfl rfl ?_
    refine x_lcmp F dM_isLink_17 ?_
    refine x_if_ne F (tgt := 36) dM_isLink_18 (by decide) (fun c2 => ?_) (fun c2 => ?_)
    · skip
      have c2 : ¬ (lC) (j) = co := fun z => c2 ((lg_cmp_eq ((lC) (j)) (co)).mpr z)
      refine x_iconst F (v := nI (0)) dM_isLink_36 (by decide) ?_
      exact x_zret F hr (by rfl) dM_isLink_37 (x_f (by simp [mLk, c2]))
    · skip
      have c2 : (lC) (j) = co := (lg_cmp_eq ((lC) (j)) (co)).mp c2
      refine x_aload_n F 0 dM_isLink_21 rfl rfl ?_
      refine x_get (ci := 6) F 19 (x_in inM) rfl (by decide) (x_m kfM_51) dM_isLink_22 h0 rfl ?_
      refine x_iload_n F 1 dM_isLink_25 rfl rfl ?_
      refine x_iald F dM_isLink_26 h13 (pk_in (j) (60) (by omega)) ?_
      refine xW.toi ((lT) (j)) (by rw [nI_clamp (by omega)]) ?_
      refine x_iload F 4 dM_isLink_27 rfl ?_
      refine x_icmp_ne F (tgt := 36) dM_isLink_29 (by decide) (fun c3 => ?_) (fun c3 => ?_)
      · skip
        refine x_iconst F (v := nI (0)) dM_isLink_36 (by decide) ?_
        exact x_zret F hr (by rfl) dM_isLink_37 (x_f (by simp [mLk, c3]))
      · skip
        refine x_iconst F (v := nI (1)) dM_isLink_32 (by decide) ?_
        refine x_goto F (tgt := 37) dM_isLink_33 (by decide) ?_
        exact x_zret F hr (by rfl) dM_isLink_37 (x_t (by simp [mLk, c1, c2, c3]))
set_option maxHeartbeats 4000000 in
set_option maxRecDepth 100000 in
theorem cM_linksOf (l : Launch) (nx : Nat) (M : xH) (a : Nat) (th : Int32) (sg : Nat → Int32) (sn pr : Nat) (fk fp : Int32) (rws : Nat → Int32) (cd : Nat → Int64) (ds wc : Nat → Int32) (wd : Nat → Int64) (nn : Nat) (nE : Nat → Int32) (nC : Nat → Int64) (nK : Nat → Int32) (nO : Nat → Int64) (ln : Nat) (lF : Nat → Int32) (lC : Nat → Int64) (lT : Nat → Int32) (lO : Nat → Int64) (fn : Nat) (fC : Nat → Int64) (fP : Nat → Int32) (ak : Nat → Int64) (ac : Nat) (pt : Nat → Int32) (hT : mAt M a th sg sn pr fk fp rws cd ds wc wd nn nE nC nK nO ln lF lC lT lO fn fC fP ak ac pt) (aa : Int32) (co : Int64) (bb : Int32) : xC l xcl yM_linksOf (xw (Cond.code yM_linksOf bM_linksOf 7 (some .int))) ({ frames := 1, cells := 0, slots := 0, locals := 25 } : Room) [.ref (a), .int (aa), .long (co), .int (bb)] nx M (x_is (some (.int (nI (ct (mLk lF lC lT aa co bb) ln 0 0)))) nx M) := by
  obtain ⟨h0, h1, h2, h3, h4, h5, h6, h7, h8, h9, h10, h11, h12, h13, h14, h15, h16, h17, h18, b1, b2, b3, b4, b5, b6⟩ := id hT
  refine yC (by decide) (Nat.le_of_ble_eq_true rfl) ?_
  intro p e s m args below meth c D F hr hn
  have loop : ∀ (k : Nat) (i cq : Nat), i + k = ln → cq ≤ i → ct (mLk lF lC lT aa co bb) ln 0 0 = ct (mLk lF lC lT aa co bb) k i cq → xW p l e ({ frames := 1, cells := 0, slots := 0, locals := 25 } : Room) s m args below meth c D xcl (x_A M nx) 7 (MQ below (x_Q D xcl (x_A M nx) (x_is (some (.int (nI (ct (mLk lF lC lT aa co bb) ln 0 0)))) nx M)) args s 0 0 (x_A M nx)) 0 0 (nx) M 6 [(6, .int (nI (i))), (5, .int (nI (cq))), (0, .ref (a)), (1, .int (aa)), (2, .long (co)), (4, .int (bb))] [] := by
    intro k
    induction k with
    | zero =>
      intro i cq hi hc hf
      refine x_iload F 0 dM_linksOf_6 rfl ?_
      refine x_aload_n F 2 dM_linksOf_8 rfl rfl ?_
      refine x_get (ci := 6) F 16 (x_in inM) rfl (by decide) (x_m kfM_145) dM_linksOf_9 h0 rfl ?_
      refine x_icmp_ge F (tgt := 44) dM_linksOf_12 (by decide) (fun c1 => ?_) (fun c1 => ?_)
      · skip
        have c1 : ln ≤ i := by
          exact (nI_leI (a := ln) (b := i) (by omega) (by omega)).mp c1
        refine x_iload F 1 dM_linksOf_44 rfl ?_
        exact x_iret F hr dM_linksOf_46 (x_e (by rw [hf]; rfl))
      · skip
        have c1 : i < ln := by
          have z : ¬ (ln ≤ i) := fun zz => c1 ((nI_leI (a := ln) (b := i) (by omega) (by omega)).mpr zz)
          omega
        exact absurd c1 (by omega)
    | succ k ih =>
      intro i cq hi hc hf
      refine x_iload F 0 dM_linksOf_6 rfl ?_
      refine x_aload_n F 2 dM_linksOf_8 rfl rfl ?_
      refine x_get (ci := 6) F 16 (x_in inM) rfl (by decide) (x_m kfM_145) dM_linksOf_9 h0 rfl ?_
      refine x_icmp_ge F (tgt := 44) dM_linksOf_12 (by decide) (fun c2 => ?_) (fun c2 => ?_)
      · skip
        have c2 : ln ≤ i := by
          exact (nI_leI (a := ln) (b := i) (by omega) (by omega)).mp c2
        exact absurd c2 (by omega)
      · skip
        have c2 : i < ln := by
          have z : ¬ (ln ≤ i) := fun zz => c2 ((nI_leI (a := ln) (b := i) (by omega) (by omega)).mpr zz)
          omega
        refine x_iload F 1 dM_linksOf_15 rfl ?_
        refine x_aload_n F 2 dM_linksOf_17 rfl rfl ?_
        refine x_iload F 0 dM_linksOf_18 rfl ?_
        refine x_iload_n F 3 dM_linksOf_20 rfl rfl ?_
        refine x_lload_n F 4 dM_linksOf_21 rfl rfl ?_
        refine x_iload F 5 dM_linksOf_22 rfl ?_
        refine yV (n := 4) (As := [.int (nI (i)), .int (aa), .long (co), .int (bb)]) (ci := 6) F kmM_184 kiM_isLink ksM_isLink knM kcM_isLink (by decide +kernel) dM_linksOf_24 (cM_isLink l (nx) M (a) th sg sn pr fk fp rws cd ds wc wd nn nE nC nK nO ln lF lC lT lO fn fC fP ak ac pt hT i (by omega) aa co bb) rfl h0 rfl rfl (Nat.le_of_ble_eq_true rfl) ⟨Nat.le_of_ble_eq_true rfl, Nat.le_of_ble_eq_true rfl⟩ ⟨Nat.le_of_ble_eq_true rfl, Nat.le_of_ble_eq_true rfl⟩ ?_
        refine x_if_eq F (tgt := 34) dM_linksOf_27 (by decide) (fun c3 => ?_) (fun c3 => ?_)
        · skip
          have c3 : (mLk lF lC lT aa co bb i) = false := bI_0 c3
          refine x_iconst F (v := nI (0)) dM_linksOf_34 (by decide) ?_
          refine x_iadd F dM_linksOf_35 ?_
          refine xW.toi (nI (cq + 0)) (nI_add _ _) ?_
          refine x_istore F [(5, .int (nI (cq + 0))), (6, .int (nI (i))), (0, .ref (a)), (1, .int (aa)), (2, .long (co)), (4, .int (bb))] dM_linksOf_36 (by decide) rfl ?_
          refine x_iinc F 1 [(6, .int (nI (i + 1))), (5, .int (nI (cq + 0))), (0, .ref (a)), (1, .int (aa)), (2, .long (co)), (4, .int (bb))] dM_linksOf_38 rfl (nI_add (i) 1) (by decide) rfl ?_
          refine x_goto F (tgt := 6) dM_linksOf_41 (by decide) ?_
          exact ih (i + 1) cq (by omega) (by omega) (by rw [hf, ct_s, if_neg (by rw [c3]; decide)])
        · skip
          have c3 : (mLk lF lC lT aa co bb i) = true := bI_1 c3
          refine x_iconst F (v := nI (1)) dM_linksOf_30 (by decide) ?_
          refine x_goto F (tgt := 35) dM_linksOf_31 (by decide) ?_
          refine x_iadd F dM_linksOf_35 ?_
          refine xW.toi (nI (cq + 1)) (nI_add _ _) ?_
          refine x_istore F [(5, .int (nI (cq + 1))), (6, .int (nI (i))), (0, .ref (a)), (1, .int (aa)), (2, .long (co)), (4, .int (bb))] dM_linksOf_36 (by decide) rfl ?_
          refine x_iinc F 1 [(6, .int (nI (i + 1))), (5, .int (nI (cq + 1))), (0, .ref (a)), (1, .int (aa)), (2, .long (co)), (4, .int (bb))] dM_linksOf_38 rfl (nI_add (i) 1) (by decide) rfl ?_
          refine x_goto F (tgt := 6) dM_linksOf_41 (by decide) ?_
          exact ih (i + 1) (cq + 1) (by omega) (by omega) (by rw [hf, ct_s, if_pos (c3)])
  refine x_iconst F (v := nI (0)) dM_linksOf_0 (by decide) ?_
  refine x_istore F [(5, .int (nI (0))), (0, .ref (a)), (1, .int (aa)), (2, .long (co)), (4, .int (bb))] dM_linksOf_1 (by decide) rfl ?_
  refine x_iconst F (v := nI (0)) dM_linksOf_3 (by decide) ?_
  refine x_istore F [(6, .int (nI (0))), (5, .int (nI (0))), (0, .ref (a)), (1, .int (aa)), (2, .long (co)), (4, .int (bb))] dM_linksOf_4 (by decide) rfl ?_
  exact loop ln 0 0 (by omega) (by omega) rfl
set_option maxHeartbeats 4000000 in
set_option maxRecDepth 100000 in
theorem cM_linksTo (l : Launch) (nx : Nat) (M : xH) (a : Nat) (th : Int32) (sg : Nat → Int32) (sn pr : Nat) (fk fp : Int32) (rws : Nat → Int32) (cd : Nat → Int64) (ds wc : Nat → Int32) (wd : Nat → Int64) (nn : Nat) (nE : Nat → Int32) (nC : Nat → Int64) (nK : Nat → Int32) (nO : Nat → Int64) (ln : Nat) (lF : Nat → Int32) (lC : Nat → Int64) (lT : Nat → Int32) (lO : Nat → Int64) (fn : Nat) (fC : Nat → Int64) (fP : Nat → Int32) (ak : Nat → Int64) (ac : Nat) (pt : Nat → Int32) (hT : mAt M a th sg sn pr fk fp rws cd ds wc wd nn nE nC nK nO ln lF lC lT lO fn fC fP ak ac pt) (aa bb : Int32) (oo : Int64) : xC l xcl yM_linksTo (xw (Cond.code yM_linksTo bM_linksTo 7 (some .int))) ({ frames := 0, cells := 0, slots := 0, locals := 0 } : Room) [.ref (a), .int (aa), .int (bb), .long (oo)] nx M (x_is (some (.int (nI (ct (mLt lF lT lO aa bb oo) ln 0 0)))) nx M) := by
  obtain ⟨h0, h1, h2, h3, h4, h5, h6, h7, h8, h9, h10, h11, h12, h13, h14, h15, h16, h17, h18, b1, b2, b3, b4, b5, b6⟩ := id hT
  refine yC (by decide) (Nat.le_of_ble_eq_true rfl) ?_
  intro p e s m args below meth c D F hr hn
  have loop : ∀ (k : Nat) (i cq : Nat), i + k = ln → cq ≤ i → ct (mLt lF lT lO aa bb oo) ln 0 0 = ct (mLt lF lT lO aa bb oo) k i cq → xW p l e ({ frames := 0, cells := 0, slots := 0, locals := 0 } : Room) s m args below meth c D xcl (x_A M nx) 7 (MQ below (x_Q D xcl (x_A M nx) (x_is (some (.int (nI (ct (mLt lF lT lO aa bb oo) ln 0 0)))) nx M)) args s 0 0 (x_A M nx)) 0 0 (nx) M 6 [(6, .int (nI (i))), (5, .int (nI (cq))), (0, .ref (a)), (1, .int (aa)), (2, .int (bb)), (3, .long (oo))] [] := by
    intro k
    induction k with
    | zero =>
      intro i cq hi hc hf
      refine x_iload F 0 dM_linksTo_6 rfl ?_
      refine x_aload_n F 2 dM_linksTo_8 rfl rfl ?_
      refine x_get (ci := 6) F 16 (x_in inM) rfl (by decide) (x_m kfM_145) dM_linksTo_9 h0 rfl ?_
      refine x_icmp_ge F (tgt := 65) dM_linksTo_12 (by decide) (fun c1 => ?_) (fun c1 => ?_)
      · skip
        have c1 : ln ≤ i := by
          exact (nI_leI (a := ln) (b := i) (by omega) (by omega)).mp c1
        refine x_iload F 1 dM_linksTo_65 rfl ?_
        exact x_iret F hr dM_linksTo_67 (x_e (by rw [hf]; rfl))
      · skip
        have c1 : i < ln := by
          have z : ¬ (ln ≤ i) := fun zz => c1 ((nI_leI (a := ln) (b := i) (by omega) (by omega)).mpr zz)
          omega
        exact absurd c1 (by omega)
    | succ k ih =>
      intro i cq hi hc hf
      refine x_iload F 0 dM_linksTo_6 rfl ?_
      refine x_aload_n F 2 dM_linksTo_8 rfl rfl ?_
      refine x_get (ci := 6) F 16 (x_in inM) rfl (by decide) (x_m kfM_145) dM_linksTo_9 h0 rfl ?_
      refine x_icmp_ge F (tgt := 65) dM_linksTo_12 (by decide) (fun c2 => ?_) (fun c2 => ?_)
      · skip
        have c2 : ln ≤ i := by
          exact (nI_leI (a := ln) (b := i) (by omega) (by omega)).mp c2
        exact absurd c2 (by omega)
      · skip
        have c2 : i < ln := by
          have z : ¬ (ln ≤ i) := fun zz => c2 ((nI_leI (a := ln) (b := i) (by omega) (by omega)).mpr zz)
          omega
        refine x_iload F 1 dM_linksTo_15 rfl ?_
        refine x_aload_n F 2 dM_linksTo_17 rfl rfl ?_
        refine x_get (ci := 6) F 17 (x_in inM) rfl (by decide) (x_m kfM_45) dM_linksTo_18 h0 rfl ?_
        refine x_iload F 0 dM_linksTo_21 rfl ?_
        refine x_iald F dM_linksTo_23 h11 (pk_in (i) (60) (by omega)) ?_
        refine xW.toi ((lF) (i)) (by rw [nI_clamp (by omega)]) ?_
        refine x_iload_n F 3 dM_linksTo_24 rfl rfl ?_
        refine x_icmp_ne F (tgt := 55) dM_linksTo_25 (by decide) (fun c3 => ?_) (fun c3 => ?_)
        · skip
          refine x_iconst F (v := nI (0)) dM_linksTo_55 (by decide) ?_
          refine x_iadd F dM_linksTo_56 ?_
          refine xW.toi (nI (cq + 0)) (nI_add _ _) ?_
          refine x_istore F [(5, .int (nI (cq + 0))), (6, .int (nI (i))), (0, .ref (a)), (1, .int (aa)), (2, .int (bb)), (3, .long (oo))] dM_linksTo_57 (by decide) rfl ?_
          refine x_iinc F 1 [(6, .int (nI (i + 1))), (5, .int (nI (cq + 0))), (0, .ref (a)), (1, .int (aa)), (2, .int (bb)), (3, .long (oo))] dM_linksTo_59 rfl (nI_add (i) 1) (by decide) rfl ?_
          refine x_goto F (tgt := 6) dM_linksTo_62 (by decide) ?_
          exact ih (i + 1) cq (by omega) (by omega) (by rw [hf, ct_s, if_neg (by simp [mLt, c3])])
        · skip
          refine x_aload_n F 2 dM_linksTo_28 rfl rfl ?_
          refine x_get (ci := 6) F 19 (x_in inM) rfl (by decide) (x_m kfM_51) dM_linksTo_29 h0 rfl ?_
          refine x_iload F 0 dM_linksTo_32 rfl ?_
          refine x_iald F dM_linksTo_34 h13 (pk_in (i) (60) (by omega)) ?_
          refine xW.toi ((lT) (i)) (by rw [nI_clamp (by omega)]) ?_
          refine x_iload_n F 4 dM_linksTo_35 rfl rfl ?_
          refine x_icmp_ne F (tgt := 55) dM_linksTo_36 (by decide) (fun c4 => ?_) (fun c4 => ?_)
          · skip
            refine x_iconst F (v := nI (0)) dM_linksTo_55 (by decide) ?_
            refine x_iadd F dM_linksTo_56 ?_
            refine xW.toi (nI (cq + 0)) (nI_add _ _) ?_
            refine x_istore F [(5, .int (nI (cq + 0))), (6, .int (nI (i))), (0, .ref (a)), (1, .int (aa)), (2, .int (bb)), (3, .long (oo))] dM_linksTo_57 (by decide) rfl ?_
            refine x_iinc F 1 [(6, .int (nI (i + 1))), (5, .int (nI (cq + 0))), (0, .ref (a)), (1, .int (aa)), (2, .int (bb)), (3, .long (oo))] dM_linksTo_59 rfl (nI_add (i) 1) (by decide) rfl ?_
            refine x_goto F (tgt := 6) dM_linksTo_62 (by decide) ?_
            exact ih (i + 1) cq (by omega) (by omega) (by rw [hf, ct_s, if_neg (by simp [mLt, c3, c4])])
          · skip
            refine x_aload_n F 2 dM_linksTo_39 rfl rfl ?_
            refine x_get (ci := 6) F 20 (x_in inM) rfl (by decide) (x_m kfM_54) dM_linksTo_40 h0 rfl ?_
            refine x_iload F 0 dM_linksTo_43 rfl ?_
            refine x_lald F dM_linksTo_45 h14 (pk_in (i) (60) (by omega)) ?_
            refine xW.tol ((lO) (i)) (by rw [nI_clamp (by omega)]) ?_
            refine x_lload_n F 5 dM_linksTo_46 rfl rfl ?_
            refine x_lcmp F dM_linksTo_47 ?_
            refine x_if_ne F (tgt := 55) dM_linksTo_48 (by decide) (fun c5 => ?_) (fun c5 => ?_)
            · skip
              have c5 : ¬ (lO) (i) = oo := fun z => c5 ((lg_cmp_eq ((lO) (i)) (oo)).mpr z)
              refine x_iconst F (v := nI (0)) dM_linksTo_55 (by decide) ?_
              refine x_iadd F dM_linksTo_56 ?_
              refine xW.toi (nI (cq + 0)) (nI_add _ _) ?_
              refine x_istore F [(5, .int (nI (cq + 0))), (6, .int (nI (i))), (0, .ref (a)), (1, .int (aa)), (2, .int (bb)), (3, .long (oo))] dM_linksTo_57 (by decide) rfl ?_
              refine x_iinc F 1 [(6, .int (nI (i + 1))), (5, .int (nI (cq + 0))), (0, .ref (a)), (1, .int (aa)), (2, .int (bb)), (3, .long (oo))] dM_linksTo_59 rfl (nI_add (i) 1) (by decide) rfl ?_
              refine x_goto F (tgt := 6) dM_linksTo_62 (by decide) ?_
              exact ih (i + 1) cq (by omega) (by omega) (by rw [hf, ct_s, if_neg (by simp [mLt, c3, c4, c5])])
            · skip
              have c5 : (lO) (i) = oo := (lg_cmp_eq ((lO) (i)) (oo)).mp c5
              refine x_iconst F (v := nI (1)) dM_linksTo_51 (by decide) ?_
              refine x_goto F (tgt := 56) dM_linksTo_52 (by decide) ?_
              refine x_iadd F dM_linksTo_56 ?_
              refine xW.toi (nI (cq + 1)) (nI_add _ _) ?_
              refine x_istore F [(5, .int (nI (cq + 1))), (6, .int (nI (i))), (0, .ref (a)), (1, .int (aa)), (2, .int (bb)), (3, .long (oo))] dM_linksTo_57 (by decide) rfl ?_
              refine x_iinc F 1 [(6, .int (nI (i + 1))), (5, .int (nI (cq + 1))), (0, .ref (a)), (1, .int (aa)), (2, .int (bb)), (3, .long (oo))] dM_linksTo_59 rfl (nI_add (i) 1) (by decide) rfl ?_
              refine x_goto F (tgt := 6) dM_linksTo_62 (by decide) ?_
              exact ih (i + 1) (cq + 1) (by omega) (by omega) (by rw [hf, ct_s, if_pos (by simp [mLt, c3, c4, c5])])
  refine x_iconst F (v := nI (0)) dM_linksTo_0 (by decide) ?_
  refine x_istore F [(5, .int (nI (0))), (0, .ref (a)), (1, .int (aa)), (2, .int (bb)), (3, .long (oo))] dM_linksTo_1 (by decide) rfl ?_
  refine x_iconst F (v := nI (0)) dM_linksTo_3 (by decide) ?_
  refine x_istore F [(6, .int (nI (0))), (5, .int (nI (0))), (0, .ref (a)), (1, .int (aa)), (2, .int (bb)), (3, .long (oo))] dM_linksTo_4 (by decide) rfl ?_
  exact loop ln 0 0 (by omega) (by omega) rfl
set_option maxHeartbeats 4000000 in
set_option maxRecDepth 100000 in
theorem cM_isOf (l : Launch) (nx : Nat) (M : xH) (a : Nat) (th : Int32) (sg : Nat → Int32) (sn pr : Nat) (fk fp : Int32) (rws : Nat → Int32) (cd : Nat → Int64) (ds wc : Nat → Int32) (wd : Nat → Int64) (nn : Nat) (nE : Nat → Int32) (nC : Nat → Int64) (nK : Nat → Int32) (nO : Nat → Int64) (ln : Nat) (lF : Nat → Int32) (lC : Nat → Int64) (lT : Nat → Int32) (lO : Nat → Int64) (fn : Nat) (fC : Nat → Int64) (fP : Nat → Int32) (ak : Nat → Int64) (ac : Nat) (pt : Nat → Int32) (hT : mAt M a th sg sn pr fk fp rws cd ds wc wd nn nE nC nK nO ln lF lC lT lO fn fC fP ak ac pt) (rw : Nat → Nat) (hrw : mR rws rw) (e0 : Int32) (co : Int64) (bb : Int32) : xC l xcl yM_isOf (xw (Cond.code yM_isOf bM_isOf 5 (some .boolean))) ({ frames := 1, cells := 0, slots := 0, locals := 25 } : Room) [.ref (a), .int (e0), .long (co), .int (bb)] nx M (x_is (some (.int (bI (mOf rw cd e0 co bb)))) nx M) := by
  obtain ⟨h0, h1, h2, h3, h4, h5, h6, h7, h8, h9, h10, h11, h12, h13, h14, h15, h16, h17, h18, b1, b2, b3, b4, b5, b6⟩ := id hT
  refine yC (by decide) (Nat.le_of_ble_eq_true rfl) ?_
  intro p e s m args below meth c D F hr hn
  refine x_iload_n F 1 dM_isOf_0 rfl rfl ?_
  refine yS (n := 1) (As := [.int (e0)]) F kmM_163 ktM_isEdition knM kcM_isEdition (by decide +kernel) dM_isOf_1 (cM_isEd l (nx) M (e0)) rfl rfl (Nat.le_of_ble_eq_true rfl) ⟨Nat.le_of_ble_eq_true rfl, Nat.le_of_ble_eq_true rfl⟩ ⟨Nat.le_of_ble_eq_true rfl, Nat.le_of_ble_eq_true rfl⟩ ?_
  refine x_if_eq F (tgt := 45) dM_isOf_4 (by decide) (fun c1 => ?_) (fun c1 => ?_)
  · skip
    have c1 : (inE (e0)) = false := bI_0 c1
    refine x_iconst F (v := nI (0)) dM_isOf_45 (by decide) ?_
    exact x_zret F hr (by rfl) dM_isOf_46 (x_f (by simp [mOf, edOk, c1]))
  · skip
    have c1 : (inE (e0)) = true := bI_1 c1
    obtain ⟨k, hk, rfl⟩ := inE_n c1
    refine x_iload F 3 dM_isOf_7 rfl ?_
    refine yS (n := 1) (As := [.int (bb)]) F kmM_163 ktM_isEdition knM kcM_isEdition (by decide +kernel) dM_isOf_9 (cM_isEd l (nx) M (bb)) rfl rfl (Nat.le_of_ble_eq_true rfl) ⟨Nat.le_of_ble_eq_true rfl, Nat.le_of_ble_eq_true rfl⟩ ⟨Nat.le_of_ble_eq_true rfl, Nat.le_of_ble_eq_true rfl⟩ ?_
    refine x_if_eq F (tgt := 45) dM_isOf_12 (by decide) (fun c2 => ?_) (fun c2 => ?_)
    · skip
      have c2 : (inE (bb)) = false := bI_0 c2
      refine x_iconst F (v := nI (0)) dM_isOf_45 (by decide) ?_
      exact x_zret F hr (by rfl) dM_isOf_46 (x_f (by simp [mOf, edOk, c2]))
    · skip
      have c2 : (inE (bb)) = true := bI_1 c2
      refine x_iload_n F 1 dM_isOf_15 rfl rfl ?_
      refine x_iload F 3 dM_isOf_16 rfl ?_
      refine x_icmp_eq F (tgt := 45) dM_isOf_18 (by decide) (fun c3 => ?_) (fun c3 => ?_)
      · skip
        refine x_iconst F (v := nI (0)) dM_isOf_45 (by decide) ?_
        exact x_zret F hr (by rfl) dM_isOf_46 (x_f (by simp [mOf, edOk, c3]))
      · skip
        refine x_aload_n F 0 dM_isOf_21 rfl rfl ?_
        refine x_iload_n F 1 dM_isOf_22 rfl rfl ?_
        refine yS (n := 1) (As := [.int (nI (k))]) F kmM_163 ktM_isEdition knM kcM_isEdition (by decide +kernel) dM_isOf_23 (cM_isEd l (nx) M (nI (k))) rfl rfl (Nat.le_of_ble_eq_true rfl) ⟨Nat.le_of_ble_eq_true rfl, Nat.le_of_ble_eq_true rfl⟩ ⟨Nat.le_of_ble_eq_true rfl, Nat.le_of_ble_eq_true rfl⟩ ?_
        refine x_if_eq F (tgt := 33) dM_isOf_26 (by decide) (fun c4 => ?_) (fun c4 => ?_)
        · skip
          have c4 : (inE (nI (k))) = false := bI_0 c4
          rw [inE_k hk] at c4
          cases c4
        · skip
          have c4 : (inE (nI (k))) = true := bI_1 c4
          refine x_iload_n F 1 dM_isOf_29 rfl rfl ?_
          refine x_goto F (tgt := 34) dM_isOf_30 (by decide) ?_
          refine x_lload_n F 2 dM_isOf_34 rfl rfl ?_
          refine yV (n := 2) (As := [.int (nI (k)), .long (co)]) (ci := 6) F kmM_169 kiM_rowOf ksM_rowOf knM kcM_rowOf (by decide +kernel) dM_isOf_35 (cM_rowOf l (nx) M (a) th sg sn pr fk fp rws cd ds wc wd nn nE nC nK nO ln lF lC lT lO fn fC fP ak ac pt hT rw hrw (k) (by omega) (co)) rfl h0 rfl rfl (Nat.le_of_ble_eq_true rfl) ⟨Nat.le_of_ble_eq_true rfl, Nat.le_of_ble_eq_true rfl⟩ ⟨Nat.le_of_ble_eq_true rfl, Nat.le_of_ble_eq_true rfl⟩ ?_
          rcases o_cases (mRow rw cd k co) with hrw2 | ⟨j, hrw2⟩
          · skip
            refine xW.ste (st' := [.int ((-1))]) (by show ([.int (oi (mRow rw cd (k) (co)))] : List Value) = _; rw [hrw2]; rfl) ?_
            refine x_if_lt F (tgt := 45) dM_isOf_38 (by decide) (fun c5 => ?_) (fun c5 => ?_)
            · skip
              refine x_iconst F (v := nI (0)) dM_isOf_45 (by decide) ?_
              exact x_zret F hr (by rfl) dM_isOf_46 (x_f (by rw [mOf_n hk, hrw2, show edOk (nI k) bb = true from by simp [edOk, inE_k hk, c2, c3]]; rfl))
            · skip
              exact absurd (by decide) c5
          · skip
            have hj : j < rw k := (la_lt hrw2).1
            have hr40 := (hrw k (by omega)).2
            refine xW.ste (st' := [.int (nI (j))]) (by show ([.int (oi (mRow rw cd (k) (co)))] : List Value) = _; rw [hrw2]; rfl) ?_
            refine x_if_lt F (tgt := 45) dM_isOf_38 (by decide) (fun c6 => ?_) (fun c6 => ?_)
            · skip
              have c6 : j < 0 := by
                exact (nI_ltI (a := j) (b := 0) (by omega) (by omega)).mp c6
              refine x_iconst F (v := nI (0)) dM_isOf_45 (by decide) ?_
              exact x_zret F hr (by rfl) dM_isOf_46 (absurd c6 (by omega))
            · skip
              have c6 : 0 ≤ j := by
                have z : ¬ (j < 0) := fun zz => c6 ((nI_ltI (a := j) (b := 0) (by omega) (by omega)).mpr zz)
                omega
              refine x_iconst F (v := nI (1)) dM_isOf_41 (by decide) ?_
              refine x_goto F (tgt := 46) dM_isOf_42 (by decide) ?_
              exact x_zret F hr (by rfl) dM_isOf_46 (x_t (by rw [mOf_n hk, hrw2, show edOk (nI k) bb = true from by simp [edOk, inE_k hk, c2, c3]]; rfl))
set_option maxHeartbeats 4000000 in
set_option maxRecDepth 100000 in
theorem cM_has (l : Launch) (nx : Nat) (M : xH) (a : Nat) (th : Int32) (sg : Nat → Int32) (sn pr : Nat) (fk fp : Int32) (rws : Nat → Int32) (cd : Nat → Int64) (ds wc : Nat → Int32) (wd : Nat → Int64) (nn : Nat) (nE : Nat → Int32) (nC : Nat → Int64) (nK : Nat → Int32) (nO : Nat → Int64) (ln : Nat) (lF : Nat → Int32) (lC : Nat → Int64) (lT : Nat → Int32) (lO : Nat → Int64) (fn : Nat) (fC : Nat → Int64) (fP : Nat → Int32) (ak : Nat → Int64) (ac : Nat) (pt : Nat → Int32) (hT : mAt M a th sg sn pr fk fp rws cd ds wc wd nn nE nC nK nO ln lF lC lT lO fn fC fP ak ac pt) (p0 wp : Nat) (hp : p0 < 160) (hwp : wc p0 = nI wp) (hw4 : wp ≤ 4) (ww : Int64) : xC l xcl yM_has (xw (Cond.code yM_has bM_has 6 (some .boolean))) ({ frames := 0, cells := 0, slots := 0, locals := 0 } : Room) [.ref (a), .int (nI (p0)), .long (ww)] nx M (x_is (some (.int (bI (mHas wd p0 wp ww)))) nx M) := by
  obtain ⟨h0, h1, h2, h3, h4, h5, h6, h7, h8, h9, h10, h11, h12, h13, h14, h15, h16, h17, h18, b1, b2, b3, b4, b5, b6⟩ := id hT
  refine yC (by decide) (Nat.le_of_ble_eq_true rfl) ?_
  intro p e s m args below meth c D F hr hn
  have loop : ∀ (k : Nat) (i : Nat), i + k = wp → xW p l e ({ frames := 0, cells := 0, slots := 0, locals := 0 } : Room) s m args below meth c D xcl (x_A M nx) 6 (MQ below (x_Q D xcl (x_A M nx) (x_is (some (.int (bI (mHas wd p0 wp ww)))) nx M)) args s 0 0 (x_A M nx)) 0 0 (nx) M 8 [(5, .int (nI (4 * p0 + i))), (4, .int (bI (la (fun j => decide (wd (4 * p0 + j) = ww)) i).isSome)), (0, .ref (a)), (1, .int (nI (p0))), (2, .long (ww))] [] := by
    intro k
    induction k with
    | zero =>
      intro i hi
      refine x_iload F 0 dM_has_8 rfl ?_
      refine x_iconst F (v := nI (4)) dM_has_10 (by decide) ?_
      refine x_iload_n F 3 dM_has_11 rfl rfl ?_
      refine x_imul F dM_has_12 ?_
      refine xW.toi (nI ((4) * (p0))) (pk_mul _ _) ?_
      refine x_aload_n F 2 dM_has_13 rfl rfl ?_
      refine x_get (ci := 6) F 9 (x_in inM) rfl (by decide) (x_m kfM_27) dM_has_14 h0 rfl ?_
      refine x_iload_n F 3 dM_has_17 rfl rfl ?_
      refine x_iald F dM_has_18 h5 (pk_in (p0) (160) (by omega)) ?_
      refine xW.toi (nI (wp)) (by rw [nI_clamp (by omega)]; exact hwp) ?_
      refine x_iadd F dM_has_19 ?_
      refine xW.toi (nI ((4) * (p0) + wp)) (nI_add _ _) ?_
      refine x_icmp_ge F (tgt := 53) dM_has_20 (by decide) (fun c1 => ?_) (fun c1 => ?_)
      · skip
        have c1 : (4) * (p0) + wp ≤ 4 * p0 + i := by
          exact (nI_leI (a := (4) * (p0) + wp) (b := 4 * p0 + i) (by omega) (by omega)).mp c1
        refine x_iload F 1 dM_has_53 rfl ?_
        exact x_zret F hr (bI_nar _) dM_has_55 (x_e (by rw [show i = wp by omega] <;> rfl))
      · skip
        have c1 : 4 * p0 + i < (4) * (p0) + wp := by
          have z : ¬ ((4) * (p0) + wp ≤ 4 * p0 + i) := fun zz => c1 ((nI_leI (a := (4) * (p0) + wp) (b := 4 * p0 + i) (by omega) (by omega)).mpr zz)
          omega
        exact absurd c1 (by omega)
    | succ k ih =>
      intro i hi
      refine x_iload F 0 dM_has_8 rfl ?_
      refine x_iconst F (v := nI (4)) dM_has_10 (by decide) ?_
      refine x_iload_n F 3 dM_has_11 rfl rfl ?_
      refine x_imul F dM_has_12 ?_
      refine xW.toi (nI ((4) * (p0))) (pk_mul _ _) ?_
      refine x_aload_n F 2 dM_has_13 rfl rfl ?_
      refine x_get (ci := 6) F 9 (x_in inM) rfl (by decide) (x_m kfM_27) dM_has_14 h0 rfl ?_
      refine x_iload_n F 3 dM_has_17 rfl rfl ?_
      refine x_iald F dM_has_18 h5 (pk_in (p0) (160) (by omega)) ?_
      refine xW.toi (nI (wp)) (by rw [nI_clamp (by omega)]; exact hwp) ?_
      refine x_iadd F dM_has_19 ?_
      refine xW.toi (nI ((4) * (p0) + wp)) (nI_add _ _) ?_
      refine x_icmp_ge F (tgt := 53) dM_has_20 (by decide) (fun c2 => ?_) (fun c2 => ?_)
      · skip
        have c2 : (4) * (p0) + wp ≤ 4 * p0 + i := by
          exact (nI_leI (a := (4) * (p0) + wp) (b := 4 * p0 + i) (by omega) (by omega)).mp c2
        exact absurd c2 (by omega)
      · skip
        have c2 : 4 * p0 + i < (4) * (p0) + wp := by
          have z : ¬ ((4) * (p0) + wp ≤ 4 * p0 + i) := fun zz => c2 ((nI_leI (a := (4) * (p0) + wp) (b := 4 * p0 + i) (by omega) (by omega)).mpr zz)
          omega
        refine x_iload F 1 dM_has_23 rfl ?_
        refine x_if_ne F (tgt := 40) dM_has_25 (by decide) (fun c3 => ?_) (fun c3 => ?_)
        · skip
          have c3 : ((la (fun j => decide (wd (4 * p0 + j) = ww)) i).isSome) = true := bI_1 c3
          refine x_iconst F (v := nI (1)) dM_has_40 (by decide) ?_
          refine x_goto F (tgt := 45) dM_has_41 (by decide) ?_
          refine x_istore F [(4, .int (nI (1))), (5, .int (nI (4 * p0 + i))), (0, .ref (a)), (1, .int (nI (p0))), (2, .long (ww))] dM_has_45 (by decide) rfl ?_
          refine x_iinc F 1 [(5, .int (nI (4 * p0 + i + 1))), (4, .int (nI (1))), (0, .ref (a)), (1, .int (nI (p0))), (2, .long (ww))] dM_has_47 rfl (nI_add (4 * p0 + i) 1) (by decide) rfl ?_
          refine x_goto F (tgt := 8) dM_has_50 (by decide) ?_
          exact xW.lve (lv' := [(5, .int (nI (4 * p0 + (i + 1)))), (4, .int (bI (la (fun j => decide (wd (4 * p0 + j) = ww)) (i + 1)).isSome)), (0, .ref (a)), (1, .int (nI (p0))), (2, .long (ww))]) (by rw [la_or, c3, Bool.or_true]; rfl) (ih (i + 1) (by omega))
        · skip
          have c3 : ((la (fun j => decide (wd (4 * p0 + j) = ww)) i).isSome) = false := bI_0 c3
          refine x_aload_n F 2 dM_has_28 rfl rfl ?_
          refine x_get (ci := 6) F 10 (x_in inM) rfl (by decide) (x_m kfM_30) dM_has_29 h0 rfl ?_
          refine x_iload F 0 dM_has_32 rfl ?_
          refine x_lald F dM_has_34 h6 (pk_in (4 * p0 + i) (640) (by omega)) ?_
          refine xW.tol ((wd) (4 * p0 + i)) (by rw [nI_clamp (by omega)]) ?_
          refine x_lload_n F 4 dM_has_35 rfl rfl ?_
          refine x_lcmp F dM_has_36 ?_
          refine x_if_ne F (tgt := 44) dM_has_37 (by decide) (fun c4 => ?_) (fun c4 => ?_)
          · skip
            have c4 : ¬ (wd) (4 * p0 + i) = ww := fun z => c4 ((lg_cmp_eq ((wd) (4 * p0 + i)) (ww)).mpr z)
            refine x_iconst F (v := nI (0)) dM_has_44 (by decide) ?_
            refine x_istore F [(4, .int (nI (0))), (5, .int (nI (4 * p0 + i))), (0, .ref (a)), (1, .int (nI (p0))), (2, .long (ww))] dM_has_45 (by decide) rfl ?_
            refine x_iinc F 1 [(5, .int (nI (4 * p0 + i + 1))), (4, .int (nI (0))), (0, .ref (a)), (1, .int (nI (p0))), (2, .long (ww))] dM_has_47 rfl (nI_add (4 * p0 + i) 1) (by decide) rfl ?_
            refine x_goto F (tgt := 8) dM_has_50 (by decide) ?_
            exact xW.lve (lv' := [(5, .int (nI (4 * p0 + (i + 1)))), (4, .int (bI (la (fun j => decide (wd (4 * p0 + j) = ww)) (i + 1)).isSome)), (0, .ref (a)), (1, .int (nI (p0))), (2, .long (ww))]) (by rw [la_or, c3, show decide (wd (4 * p0 + i) = ww) = false from by simpa using c4]; rfl) (ih (i + 1) (by omega))
          · skip
            have c4 : (wd) (4 * p0 + i) = ww := (lg_cmp_eq ((wd) (4 * p0 + i)) (ww)).mp c4
            refine x_iconst F (v := nI (1)) dM_has_40 (by decide) ?_
            refine x_goto F (tgt := 45) dM_has_41 (by decide) ?_
            refine x_istore F [(4, .int (nI (1))), (5, .int (nI (4 * p0 + i))), (0, .ref (a)), (1, .int (nI (p0))), (2, .long (ww))] dM_has_45 (by decide) rfl ?_
            refine x_iinc F 1 [(5, .int (nI (4 * p0 + i + 1))), (4, .int (nI (1))), (0, .ref (a)), (1, .int (nI (p0))), (2, .long (ww))] dM_has_47 rfl (nI_add (4 * p0 + i) 1) (by decide) rfl ?_
            refine x_goto F (tgt := 8) dM_has_50 (by decide) ?_
            exact xW.lve (lv' := [(5, .int (nI (4 * p0 + (i + 1)))), (4, .int (bI (la (fun j => decide (wd (4 * p0 + j) = ww)) (i + 1)).isSome)), (0, .ref (a)), (1, .int (nI (p0))), (2, .long (ww))]) (by rw [la_or, c3, show decide (wd (4 * p0 + i) = ww) = true from by simpa using c4]; rfl) (ih (i + 1) (by omega))
  refine x_iconst F (v := nI (0)) dM_has_0 (by decide) ?_
  refine x_istore F [(4, .int (nI (0))), (0, .ref (a)), (1, .int (nI (p0))), (2, .long (ww))] dM_has_1 (by decide) rfl ?_
  refine x_iconst F (v := nI (4)) dM_has_3 (by decide) ?_
  refine x_iload_n F 2 dM_has_4 rfl rfl ?_
  refine x_imul F dM_has_5 ?_
  refine xW.toi (nI ((4) * (p0))) (pk_mul _ _) ?_
  refine x_istore F [(5, .int (nI ((4) * (p0)))), (4, .int (nI (0))), (0, .ref (a)), (1, .int (nI (p0))), (2, .long (ww))] dM_has_6 (by decide) rfl ?_
  exact loop wp 0 (by omega)
