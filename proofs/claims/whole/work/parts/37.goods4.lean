theorem xC.weak {l : Launch} {cl : List vw_C} {y : MethodName} {ws : List Cond} {rm : Room} {As : List Value} {nx : Nat} {M : xH} {post post' : xO → Nat → xH → Prop} (h : xC l cl y ws rm As nx M post) (hp : ∀ r n M', post r n M' → post' r n M') : xC l cl y ws rm As nx M post' := fun D =>
  Free.MetFree.mono (h D) (fun _ _ z => z) (fun _ _ _ _ _ z => z) (fun a s o s' _ z => by
    obtain ⟨⟨⟨o1, n1, M1, z1, z2, z3, z4⟩, z5⟩, z6⟩ := z
    exact ⟨⟨⟨o1, n1, M1, z1, hp _ _ _ z2, z3, z4⟩, z5⟩, z6⟩)
/-- whether a row above has a note that leaves it out; its points -/
def gOut (γ : gS) (pf : Nat → Option Nat) (j : Nat) : Bool := up pf (fun t => pHas γ.2.2.2.2.1 (nI γ.2.1) ((γ.2.2.2.1 γ.2.1).1 t) (nI 1) ((γ.2.2.2.1 γ.2.1).1 j)) 4 (pf j)
def psum (f : Nat → Nat) : Nat → Nat → Nat → Nat
  | 0, _, c => c
  | k + 1, i, c => psum f k (i + 1) (c + f i)
theorem psum_s (f : Nat → Nat) (k i c : Nat) : psum f (k + 1) i c = psum f k (i + 1) (c + f i) := rfl
def gPt1 (γ : gS) (pf : Nat → Option Nat) (wn : Nat → Nat) (j i : Nat) : Nat := tPts pf (tHas (γ.2.2.2.1 γ.2.1).2.2.2.2.2.1 wn (γ.2.2.1.2.1 i)) j
theorem tPts_4 (pf : Nat → Option Nat) (Q : Nat → Bool) (j : Nat) : tPts pf Q j ≤ 4 := by
  unfold tPts; split
  · omega
  · split <;> omega
def gPts (γ : gS) (pf : Nat → Option Nat) (wn : Nat → Nat) (j : Nat) : Nat := if gOut γ pf j then psum (gPt1 γ pf wn j) γ.2.2.1.2.2.1 0 0 / 2 else psum (gPt1 γ pf wn j) γ.2.2.1.2.2.1 0 0
abbrev gW (γ : gS) (pf : Nat → Option Nat) (wn : Nat → Nat) : Prop := tWf (γ.2.2.2.1 γ.2.1).2.2.1 (γ.2.2.2.1 γ.2.1).2.2.2.2.1 pf wn (γ.2.2.2.1 γ.2.1).2.2.2.2.2.2.1
/-- rows with their points, one after the other -/
def srF (f : Nat → Nat) (cd : Nat → Int64) : Nat → Nat → fS → fS
  | 0, _, φ => φ
  | k + 1, i, φ => srF f cd k (i + 1) (fadd φ (cd i) (nI (f i)))
theorem srF_s (f : Nat → Nat) (cd : Nat → Int64) (k i : Nat) (φ : fS) : srF f cd (k + 1) i φ = srF f cd k (i + 1) (fadd φ (cd i) (nI (f i))) := rfl
theorem fadd_n (φ : fS) (co : Int64) (g : Int32) : (fadd φ co g).2.2 ≤ φ.2.2 + 1 := by
  unfold fadd; split
  · omega
  · exact Nat.le_refl _
/-- the reader behind a search -/
def rSr (ρ : rS) (tx : Nat → Nat) : rS := (ρ.1, (wds tx ρ.2.2.2.1 6 6 0 0 ρ.2.1).2.2.2, (wds tx ρ.2.2.2.1 6 6 0 0 ρ.2.1).2.1, 0, (wds tx ρ.2.2.2.1 6 6 0 0 ρ.2.1).2.2.1, (if ask tx ρ.2.2.2.1 ρ.2.1 then nI 0 else nI 1), (if ask tx ρ.2.2.2.1 ρ.2.1 then (-1) else nI (wds tx ρ.2.2.2.1 6 6 0 0 ρ.2.1).2.2.1))
def gSr (γ : gS) (tx : Nat → Nat) (pf : Nat → Option Nat) (wn : Nat → Nat) : fS := srF (gPts (gRd γ (rSr γ.2.2.1 tx)) pf wn) (γ.2.2.2.1 γ.2.1).1 (γ.2.2.2.1 γ.2.1).2.2.2.2.2.2.1 0 (γ.2.2.2.2.2.2.1, γ.2.2.2.2.2.2.2.1, 0)
/-! reading: the spare tree and the present edition's change places -/
def swπ (π : Nat → Nat) (q : Nat) : Nat → Nat := fun i => if i = q then π 3 else if i = 3 then π q else π i
def swT (T : Nat → tS) (q : Nat) (τ : tS) : Nat → tS := fun i => if i = q then τ else if i = 3 then T q else T i
theorem sw_tr {M M' : xH} {g : Nat} {π : Nat → Nat} {T : Nat → tS} {q : Nat} {τ : tS} (hq : q < 3) (hn : tIs M' (g + 18 + 7 * π 3) τ) (hT : ∀ i, i < 4 → tIs M (g + 18 + 7 * π i) (T i)) (hinj : ∀ i j, i < 4 → j < 4 → π i = π j → i = j) (hf : ∀ b, g + 17 < b → (b < g + 18 + 7 * π 3 ∨ g + 18 + 7 * π 3 + 6 < b) → M' b = M b) : ∀ i, i < 4 → tIs M' (g + 18 + 7 * swπ π q i) (swT T q τ i) := by
  intro i hi
  by_cases h1 : i = q
  · subst h1
    rw [show swπ π i i = π 3 from if_pos rfl, show swT T i τ i = τ from if_pos rfl]; exact hn
  · have key : ∀ j, j < 4 → j ≠ 3 → tIs M' (g + 18 + 7 * π j) (T j) := fun j hj h3 => tAt_fr (hT j hj) (fun b a1 a2 => hf b (by omega) (by
      have : π j ≠ π 3 := fun z => h3 (hinj j 3 hj (by omega) z)
      omega))
    by_cases h2 : i = 3
    · subst h2
      rw [show swπ π q 3 = π q from (if_neg h1).trans (if_pos rfl), show swT T q τ 3 = T q from (if_neg h1).trans (if_pos rfl)]; exact key q (by omega) (by omega)
    · rw [show swπ π q i = π i from (if_neg h1).trans (if_neg h2), show swT T q τ i = T i from (if_neg h1).trans (if_neg h2)]; exact key i hi h2
theorem sw_lt {π : Nat → Nat} {q : Nat} (hq : q < 3) (h : ∀ i, i < 4 → π i < 4) : ∀ i, i < 4 → swπ π q i < 4 := by
  intro i hi
  unfold swπ; split
  · exact h 3 (by omega)
  · split
    · exact h q (by omega)
    · exact h i hi
theorem sw_q (π : Nat → Nat) (q : Nat) : swπ π q q = π 3 := if_pos rfl
theorem sw_3 (π : Nat → Nat) {q : Nat} (hq : q < 3) : swπ π q 3 = π q := (if_neg (by omega)).trans (if_pos rfl)
theorem sw_n (π : Nat → Nat) {q i : Nat} (h1 : i ≠ q) (h2 : i ≠ 3) : swπ π q i = π i := (if_neg h1).trans (if_neg h2)
theorem sw_inj {π : Nat → Nat} {q : Nat} (hq : q < 3) (h : ∀ i j, i < 4 → j < 4 → π i = π j → i = j) : ∀ i j, i < 4 → j < 4 → swπ π q i = swπ π q j → i = j := by
  have key : ∀ i, i < 4 → ∃ i', i' < 4 ∧ swπ π q i = π i' ∧ ((i = q ∧ i' = 3) ∨ (i = 3 ∧ i' = q) ∨ (i ≠ q ∧ i ≠ 3 ∧ i' = i)) := by
    intro i hi
    by_cases h1 : i = q
    · exact ⟨3, by omega, by rw [h1, sw_q], Or.inl ⟨h1, rfl⟩⟩
    · by_cases h2 : i = 3
      · exact ⟨q, by omega, by rw [h2, sw_3 π hq], Or.inr (Or.inl ⟨h2, rfl⟩)⟩
      · exact ⟨i, hi, sw_n π h1 h2, Or.inr (Or.inr ⟨h1, h2, rfl⟩)⟩
  intro i j hi hj hz
  obtain ⟨i', a1, a2, a3⟩ := key i hi
  obtain ⟨j', b1, b2, b3⟩ := key j hj
  have := h i' j' a1 b1 (by rw [← a2, ← b2]; exact hz)
  omega
theorem sw_f {f : Nat → Option Nat} {g : Nat} {π : Nat → Nat} {q : Nat} (hf : ∀ i, i < 3 → f i = some (g + 18 + 7 * π i)) : ∀ i, i < 3 → va_up f q (some (g + 18 + 7 * π 3)) i = some (g + 18 + 7 * swπ π q i) := by
  intro i hi
  by_cases h1 : i = q
  · subst h1; rw [va_up_self, show swπ π i i = π 3 from if_pos rfl]
  · rw [va_up_ne _ _ h1, hf i hi, show swπ π q i = π i from (if_neg h1).trans (if_neg (by omega))]
def tClr (τ : tS) : tS := (τ.1, τ.2.1, τ.2.2.1, τ.2.2.2.1, τ.2.2.2.2.1, τ.2.2.2.2.2.1, 0, 0)
/-- the pairs behind a reading of an edition -/
def pFrom (e : Int32) (σ : pS) : pS := dpa (fun (s : pS) (j : Nat) => decide (s.1 j = e)) σ.2.2.2.2 σ
def pMark (e : Int32) (σ : pS) : pS := dpa (fun (s : pS) (j : Nat) => decide (s.2.2.1 j = e)) σ.2.2.2.2 σ
def gRx (γ : gS) (tx : Nat → Nat) : Option (Nat × Nat) × tS := rdx tx γ.2.2.1.2.2.2.1 γ.2.2.1.2.1 (tClr (γ.2.2.2.1 3))
def gRead (γ : gS) (ρ : rS) (τ : tS) : gS := (swπ γ.1 γ.2.1, γ.2.1, ρ, swT γ.2.2.2.1 γ.2.1 τ, pFrom (nI γ.2.1) γ.2.2.2.2.1, pMark (nI γ.2.1) (pFrom (nI γ.2.1) γ.2.2.2.2.2.1), γ.2.2.2.2.2.2)
def gSpare (γ : gS) (ρ : rS) (τ : tS) : gS := (γ.1, γ.2.1, ρ, va_up γ.2.2.2.1 3 τ, γ.2.2.2.2)
theorem sp_tr {M M' : xH} {g : Nat} {π : Nat → Nat} {T : Nat → tS} {τ : tS} (hn : tIs M' (g + 18 + 7 * π 3) τ) (hT : ∀ i, i < 4 → tIs M (g + 18 + 7 * π i) (T i)) (hinj : ∀ i j, i < 4 → j < 4 → π i = π j → i = j) (hf : ∀ b, g + 17 < b → (b < g + 18 + 7 * π 3 ∨ g + 18 + 7 * π 3 + 6 < b) → M' b = M b) : ∀ i, i < 4 → tIs M' (g + 18 + 7 * π i) (va_up T 3 τ i) := by
  intro i hi
  by_cases h3 : i = 3
  · subst h3; rw [va_up_self]; exact hn
  · rw [va_up_ne _ _ h3]
    exact tAt_fr (hT i hi) (fun b a1 a2 => hf b (by omega) (by
      have : π i ≠ π 3 := fun z => h3 (hinj i 3 hi (by omega) z)
      omega))
set_option maxHeartbeats 4000000 in
set_option maxRecDepth 100000 in
theorem cG_isLeft (l : Launch) (nx : Nat) (M : xH) (g : Nat) (γ : gS) (hG : gIs M g γ) (pf : Nat → Option Nat) (wn : Nat → Nat) (hW : gW γ pf wn) (j : Nat) (hj : j < (γ.2.2.2.1 γ.2.1).2.2.2.2.2.2.1) : xC l xcl yG_isLeftOut (xw (Cond.code yG_isLeftOut bG_isLeftOut 5 (some .boolean))) ({ frames := 3, cells := 0, slots := 0, locals := 73 } : Room) [.ref (g), .ref (g + 18 + 7 * γ.1 γ.2.1), .int (nI (j))] nx M (x_is (some (.int (bI (gOut γ pf j)))) nx M) := by
  obtain ⟨⟨fT, h0, h4, hfT, hpr, hπ, hπi⟩, hRd, hTr, hNo, hLi, hFi⟩ := id hG
  have hpp := hπ γ.2.1 (by omega)
  have hn40 := (hTr γ.2.1 (by omega)).2.2.2.2.2.2.2.1
  refine yC (by decide) (Nat.le_of_ble_eq_true rfl) ?_
  intro p e s m args below meth c D F hr hn
  have loop : ∀ (k : Nat) (i : Nat) (r : Option Nat), i + k = 4 → (∀ t, r = some t → t < (γ.2.2.2.1 γ.2.1).2.2.2.2.2.2.1) → gOut γ pf j = up pf (fun t => pHas γ.2.2.2.2.1 (nI γ.2.1) ((γ.2.2.2.1 γ.2.1).1 t) (nI 1) ((γ.2.2.2.1 γ.2.1).1 j)) k r → xW p l e ({ frames := 3, cells := 0, slots := 0, locals := 73 } : Room) s m args below meth c D xcl (x_A M nx) 5 (MQ below (x_Q D xcl (x_A M nx) (x_is (some (.int (bI (gOut γ pf j)))) nx M)) args s 0 0 (x_A M nx)) 0 0 (nx) M 9 [(4, .int (nI (i))), (3, .int (oi (r))), (0, .ref (g)), (1, .ref (g + 18 + 7 * γ.1 γ.2.1)), (2, .int (nI (j)))] [] := by
    intro k
    induction k with
    | zero =>
      intro i r hi hr2 hf
      refine x_iload F 0 dG_isLeftOut_9 rfl ?_
      refine x_iconst F (v := nI (4)) dG_isLeftOut_11 (by decide) ?_
      refine x_icmp_ge F (tgt := 59) dG_isLeftOut_12 (by decide) (fun c1 => ?_) (fun c1 => ?_)
      · skip
        have c1 : 4 ≤ i := by
          exact (nI_leI (a := 4) (b := i) (by omega) (by omega)).mp c1
        refine x_iconst F (v := nI (0)) dG_isLeftOut_59 (by decide) ?_
        exact x_zret F hr (by rfl) dG_isLeftOut_60 (x_f (by rw [hf]; rfl))
      · skip
        have c1 : i < 4 := by
          have z : ¬ (4 ≤ i) := fun zz => c1 ((nI_leI (a := 4) (b := i) (by omega) (by omega)).mpr zz)
          omega
        exact absurd c1 (by omega)
    | succ k ih =>
      intro i r hi hr2 hf
      refine x_iload F 0 dG_isLeftOut_9 rfl ?_
      refine x_iconst F (v := nI (4)) dG_isLeftOut_11 (by decide) ?_
      refine x_icmp_ge F (tgt := 59) dG_isLeftOut_12 (by decide) (fun c2 => ?_) (fun c2 => ?_)
      · skip
        have c2 : 4 ≤ i := by
          exact (nI_leI (a := 4) (b := i) (by omega) (by omega)).mp c2
        exact absurd c2 (by omega)
      · skip
        have c2 : i < 4 := by
          have z : ¬ (4 ≤ i) := fun zz => c2 ((nI_leI (a := 4) (b := i) (by omega) (by omega)).mpr zz)
          omega
        rcases o_cases (r) with hs | ⟨t, hs⟩
        · skip
          refine xW.lve (lv' := [(4, .int (nI (i))), (3, .int ((-1))), (0, .ref (g)), (1, .ref (g + 18 + 7 * γ.1 γ.2.1)), (2, .int (nI (j)))]) (by show ([(4, .int (nI (i))), (3, .int (oi (r))), (0, .ref (g)), (1, .ref (g + 18 + 7 * γ.1 γ.2.1)), (2, .int (nI (j)))] : List (Nat × Value)) = _; rw [hs]; rfl) ?_
          refine x_iload_n F 1 dG_isLeftOut_15 rfl rfl ?_
          refine x_iconst F (v := (-1)) dG_isLeftOut_16 (by decide) ?_
          refine x_icmp_eq F (tgt := 59) dG_isLeftOut_17 (by decide) (fun c3 => ?_) (fun c3 => ?_)
          · skip
            refine x_iconst F (v := nI (0)) dG_isLeftOut_59 (by decide) ?_
            exact x_zret F hr (by rfl) dG_isLeftOut_60 (x_f (by rw [hf, hs]; rfl))
          · skip
            exact absurd rfl c3
        · skip
          have ht := hr2 t hs
          have hps := (hW t ht).1
          refine xW.lve (lv' := [(4, .int (nI (i))), (3, .int (nI (t))), (0, .ref (g)), (1, .ref (g + 18 + 7 * γ.1 γ.2.1)), (2, .int (nI (j)))]) (by show ([(4, .int (nI (i))), (3, .int (oi (r))), (0, .ref (g)), (1, .ref (g + 18 + 7 * γ.1 γ.2.1)), (2, .int (nI (j)))] : List (Nat × Value)) = _; rw [hs]; rfl) ?_
          refine x_iload_n F 1 dG_isLeftOut_15 rfl rfl ?_
          refine x_iconst F (v := (-1)) dG_isLeftOut_16 (by decide) ?_
          refine x_icmp_eq F (tgt := 59) dG_isLeftOut_17 (by decide) (fun c4 => ?_) (fun c4 => ?_)
          · skip
            exact absurd c4 (nI_m1 (by omega))
          · skip
            refine x_aload_n F 2 dG_isLeftOut_20 rfl rfl ?_
            refine x_get (ci := 5) F 2 (x_in inG) rfl (by decide) (x_m kfG_27) dG_isLeftOut_21 h0 rfl ?_
            refine x_aload_n F 2 dG_isLeftOut_24 rfl rfl ?_
            refine x_get (ci := 5) F 6 (x_in inG) rfl (by decide) (x_m kfG_46) dG_isLeftOut_25 h0 rfl ?_
            refine x_aload_n F 3 dG_isLeftOut_28 rfl rfl ?_
            refine x_iload_n F 1 dG_isLeftOut_29 rfl rfl ?_
            refine yV (n := 1) (As := [.int (nI (t))]) (ci := 4) F kmG_96 kiT_codeOf ksT_codeOf knT kcT_codeOf (by decide +kernel) dG_isLeftOut_30 (cT_codeOf l (nx) M (g + 18 + 7 * γ.1 γ.2.1) (γ.2.2.2.1 γ.2.1).1 (γ.2.2.2.1 γ.2.1).2.1 (γ.2.2.2.1 γ.2.1).2.2.1 (γ.2.2.2.1 γ.2.1).2.2.2.1 (γ.2.2.2.1 γ.2.1).2.2.2.2.1 (γ.2.2.2.1 γ.2.1).2.2.2.2.2.1 (γ.2.2.2.1 γ.2.1).2.2.2.2.2.2.1 (γ.2.2.2.1 γ.2.1).2.2.2.2.2.2.2 (hTr γ.2.1 (by omega)) t ht) rfl (hTr γ.2.1 (by omega)).1 rfl rfl (Nat.le_of_ble_eq_true rfl) ⟨Nat.le_of_ble_eq_true rfl, Nat.le_of_ble_eq_true rfl⟩ ⟨Nat.le_of_ble_eq_true rfl, Nat.le_of_ble_eq_true rfl⟩ ?_
            refine x_iconst F (v := nI (1)) dG_isLeftOut_33 (by decide) ?_
            refine x_aload_n F 3 dG_isLeftOut_34 rfl rfl ?_
            refine x_iload_n F 4 dG_isLeftOut_35 rfl rfl ?_
            refine yV (n := 1) (As := [.int (nI (j))]) (ci := 4) F kmG_96 kiT_codeOf ksT_codeOf knT kcT_codeOf (by decide +kernel) dG_isLeftOut_36 (cT_codeOf l (nx) M (g + 18 + 7 * γ.1 γ.2.1) (γ.2.2.2.1 γ.2.1).1 (γ.2.2.2.1 γ.2.1).2.1 (γ.2.2.2.1 γ.2.1).2.2.1 (γ.2.2.2.1 γ.2.1).2.2.2.1 (γ.2.2.2.1 γ.2.1).2.2.2.2.1 (γ.2.2.2.1 γ.2.1).2.2.2.2.2.1 (γ.2.2.2.1 γ.2.1).2.2.2.2.2.2.1 (γ.2.2.2.1 γ.2.1).2.2.2.2.2.2.2 (hTr γ.2.1 (by omega)) j hj) rfl (hTr γ.2.1 (by omega)).1 rfl rfl (Nat.le_of_ble_eq_true rfl) ⟨Nat.le_of_ble_eq_true rfl, Nat.le_of_ble_eq_true rfl⟩ ⟨Nat.le_of_ble_eq_true rfl, Nat.le_of_ble_eq_true rfl⟩ ?_
            refine yV (n := 4) (As := [.int (nI (γ.2.1)), .long ((γ.2.2.2.1 γ.2.1).1 (t)), .int (nI (1)), .long ((γ.2.2.2.1 γ.2.1).1 (j))]) (ci := 2) F kmG_132 kiP_holds ksP_holds knP kcP_holds (by decide +kernel) dG_isLeftOut_39 (cP_holds l (nx) M (g + 5) 20 (γ.2.2.2.2.1).1 (γ.2.2.2.2.1).2.1 (γ.2.2.2.2.1).2.2.1 (γ.2.2.2.2.1).2.2.2.1 (γ.2.2.2.2.1).2.2.2.2 hNo (nI (γ.2.1)) ((γ.2.2.2.1 γ.2.1).1 (t)) (nI (1)) ((γ.2.2.2.1 γ.2.1).1 (j))) rfl hNo.1 rfl rfl (Nat.le_of_ble_eq_true rfl) ⟨Nat.le_of_ble_eq_true rfl, Nat.le_of_ble_eq_true rfl⟩ ⟨Nat.le_of_ble_eq_true rfl, Nat.le_of_ble_eq_true rfl⟩ ?_
            refine x_if_eq F (tgt := 47) dG_isLeftOut_42 (by decide) (fun c5 => ?_) (fun c5 => ?_)
            · skip
              have c5 : (pHas (γ.2.2.2.2.1) (nI (γ.2.1)) ((γ.2.2.2.1 γ.2.1).1 (t)) (nI (1)) ((γ.2.2.2.1 γ.2.1).1 (j))) = false := bI_0 c5
              refine x_aload_n F 3 dG_isLeftOut_47 rfl rfl ?_
              refine x_iload_n F 1 dG_isLeftOut_48 rfl rfl ?_
              refine yV (n := 1) (As := [.int (nI (t))]) (ci := 4) F kmG_107 kiT_parentOf ksT_parentOf knT kcT_parentOf (by decide +kernel) dG_isLeftOut_49 (cT_parentOf l (nx) M (g + 18 + 7 * γ.1 γ.2.1) (γ.2.2.2.1 γ.2.1).1 (γ.2.2.2.1 γ.2.1).2.1 (γ.2.2.2.1 γ.2.1).2.2.1 (γ.2.2.2.1 γ.2.1).2.2.2.1 (γ.2.2.2.1 γ.2.1).2.2.2.2.1 (γ.2.2.2.1 γ.2.1).2.2.2.2.2.1 (γ.2.2.2.1 γ.2.1).2.2.2.2.2.2.1 (γ.2.2.2.1 γ.2.1).2.2.2.2.2.2.2 (hTr γ.2.1 (by omega)) t ht) rfl (hTr γ.2.1 (by omega)).1 rfl rfl (Nat.le_of_ble_eq_true rfl) ⟨Nat.le_of_ble_eq_true rfl, Nat.le_of_ble_eq_true rfl⟩ ⟨Nat.le_of_ble_eq_true rfl, Nat.le_of_ble_eq_true rfl⟩ ?_
              refine xW.toi (oi (pf t)) hps ?_
              refine x_istore_n F [(3, .int (oi (pf t))), (4, .int (nI (i))), (0, .ref (g)), (1, .ref (g + 18 + 7 * γ.1 γ.2.1)), (2, .int (nI (j)))] dG_isLeftOut_52 rfl (by decide) rfl ?_
              refine x_iinc F 1 [(4, .int (nI (i + 1))), (3, .int (oi (pf t))), (0, .ref (g)), (1, .ref (g + 18 + 7 * γ.1 γ.2.1)), (2, .int (nI (j)))] dG_isLeftOut_53 rfl (nI_add (i) 1) (by decide) rfl ?_
              refine x_goto F (tgt := 9) dG_isLeftOut_56 (by decide) ?_
              exact ih (i + 1) _ (by omega) (fun t2 h2 => Nat.lt_trans ((hW t ht).2.1 t2 h2) ht) (by rw [hf, hs, up_s, if_neg (by simpa using c5)])
            · skip
              have c5 : (pHas (γ.2.2.2.2.1) (nI (γ.2.1)) ((γ.2.2.2.1 γ.2.1).1 (t)) (nI (1)) ((γ.2.2.2.1 γ.2.1).1 (j))) = true := bI_1 c5
              refine x_iconst F (v := nI (1)) dG_isLeftOut_45 (by decide) ?_
              exact x_zret F hr (by rfl) dG_isLeftOut_46 (x_t (by rw [hf, hs, up_s, if_pos c5]))
  refine x_aload_n F 1 dG_isLeftOut_0 rfl rfl ?_
  refine x_iload_n F 2 dG_isLeftOut_1 rfl rfl ?_
  refine yV (n := 1) (As := [.int (nI (j))]) (ci := 4) F kmG_107 kiT_parentOf ksT_parentOf knT kcT_parentOf (by decide +kernel) dG_isLeftOut_2 (cT_parentOf l (nx) M (g + 18 + 7 * γ.1 γ.2.1) (γ.2.2.2.1 γ.2.1).1 (γ.2.2.2.1 γ.2.1).2.1 (γ.2.2.2.1 γ.2.1).2.2.1 (γ.2.2.2.1 γ.2.1).2.2.2.1 (γ.2.2.2.1 γ.2.1).2.2.2.2.1 (γ.2.2.2.1 γ.2.1).2.2.2.2.2.1 (γ.2.2.2.1 γ.2.1).2.2.2.2.2.2.1 (γ.2.2.2.1 γ.2.1).2.2.2.2.2.2.2 (hTr γ.2.1 (by omega)) j hj) rfl (hTr γ.2.1 (by omega)).1 rfl rfl (Nat.le_of_ble_eq_true rfl) ⟨Nat.le_of_ble_eq_true rfl, Nat.le_of_ble_eq_true rfl⟩ ⟨Nat.le_of_ble_eq_true rfl, Nat.le_of_ble_eq_true rfl⟩ ?_
  refine xW.toi (oi (pf j)) (hW j hj).1 ?_
  refine x_istore_n F [(3, .int (oi (pf j))), (0, .ref (g)), (1, .ref (g + 18 + 7 * γ.1 γ.2.1)), (2, .int (nI (j)))] dG_isLeftOut_5 rfl (by decide) rfl ?_
  refine x_iconst F (v := nI (0)) dG_isLeftOut_6 (by decide) ?_
  refine x_istore F [(4, .int (nI (0))), (3, .int (oi (pf j))), (0, .ref (g)), (1, .ref (g + 18 + 7 * γ.1 γ.2.1)), (2, .int (nI (j)))] dG_isLeftOut_7 (by decide) rfl ?_
  exact loop 4 0 _ rfl (fun t h => Nat.lt_trans ((hW j hj).2.1 t h) hj) rfl
set_option maxHeartbeats 4000000 in
set_option maxRecDepth 100000 in
theorem cG_pointsOf (l : Launch) (nx : Nat) (M : xH) (g : Nat) (γ : gS) (hG : gIs M g γ) (pf : Nat → Option Nat) (wn : Nat → Nat) (hW : gW γ pf wn) (j : Nat) (hj : j < (γ.2.2.2.1 γ.2.1).2.2.2.2.2.2.1) : xC l xcl yG_pointsOf (xw (Cond.code yG_pointsOf bG_pointsOf 5 (some .int))) ({ frames := 4, cells := 0, slots := 0, locals := 97 } : Room) [.ref (g), .ref (g + 18 + 7 * γ.1 γ.2.1), .int (nI (j))] nx M (x_is (some (.int (nI (gPts γ pf wn j)))) nx M) := by
  obtain ⟨⟨fT, h0, h4, hfT, hpr, hπ, hπi⟩, hRd, hTr, hNo, hLi, hFi⟩ := id hG
  have hpp := hπ γ.2.1 (by omega)
  have hn40 := (hTr γ.2.1 (by omega)).2.2.2.2.2.2.2.1
  refine yC (by decide) (Nat.le_of_ble_eq_true rfl) ?_
  intro p e s m args below meth c D F hr hn
  have loop : ∀ (k : Nat) (i cq : Nat), i + k = γ.2.2.1.2.2.1 → cq ≤ 4 * i → psum (gPt1 γ pf wn j) γ.2.2.1.2.2.1 0 0 = psum (gPt1 γ pf wn j) k i cq → xW p l e ({ frames := 4, cells := 0, slots := 0, locals := 97 } : Room) s m args below meth c D xcl (x_A M nx) 5 (MQ below (x_Q D xcl (x_A M nx) (x_is (some (.int (nI (gPts γ pf wn j)))) nx M)) args s 0 0 (x_A M nx)) 0 0 (nx) M 5 [(4, .int (nI (i))), (3, .int (nI (cq))), (0, .ref (g)), (1, .ref (g + 18 + 7 * γ.1 γ.2.1)), (2, .int (nI (j)))] [] := by
    intro k
    induction k with
    | zero =>
      intro i cq hi hc hf
      have hw6 := hRd.2.2.2.1
      refine x_iload F 0 dG_pointsOf_5 rfl ?_
      refine x_aload_n F 2 dG_pointsOf_7 rfl rfl ?_
      refine x_get (ci := 5) F 0 (x_in inG) rfl (by decide) (x_m kfG_10) dG_pointsOf_8 h0 rfl ?_
      refine yV (n := 0) (As := []) (ci := 3) F kmG_208 kiR_wordCount ksR_wordCount knR kcR_wordCount (by decide +kernel) dG_pointsOf_11 (cR_wordCount l (nx) M (g + 1) (γ.2.2.1).1 (γ.2.2.1).2.1 (γ.2.2.1).2.2.1 (γ.2.2.1).2.2.2.1 (γ.2.2.1).2.2.2.2.1 (γ.2.2.1).2.2.2.2.2.1 (γ.2.2.1).2.2.2.2.2.2 hRd ) rfl hRd.1 rfl rfl (Nat.le_of_ble_eq_true rfl) ⟨Nat.le_of_ble_eq_true rfl, Nat.le_of_ble_eq_true rfl⟩ ⟨Nat.le_of_ble_eq_true rfl, Nat.le_of_ble_eq_true rfl⟩ ?_
      refine x_icmp_ge F (tgt := 40) dG_pointsOf_14 (by decide) (fun c1 => ?_) (fun c1 => ?_)
      · skip
        have c1 : (γ.2.2.1).2.2.1 ≤ i := by
          exact (nI_leI (a := (γ.2.2.1).2.2.1) (b := i) (by omega) (by omega)).mp c1
        refine x_aload_n F 2 dG_pointsOf_40 rfl rfl ?_
        refine x_aload_n F 3 dG_pointsOf_41 rfl rfl ?_
        refine x_iload_n F 4 dG_pointsOf_42 rfl rfl ?_
        refine yV (n := 2) (As := [.ref (g + 18 + 7 * γ.1 γ.2.1), .int (nI (j))]) (ci := 5) F kmG_218 kiG_isLeftOut ksG_isLeftOut knG kcG_isLeftOut (by decide +kernel) dG_pointsOf_43 (cG_isLeft l (nx) M g γ hG pf wn hW j hj) rfl h0 rfl rfl (Nat.le_of_ble_eq_true rfl) ⟨Nat.le_of_ble_eq_true rfl, Nat.le_of_ble_eq_true rfl⟩ ⟨Nat.le_of_ble_eq_true rfl, Nat.le_of_ble_eq_true rfl⟩ ?_
        refine x_if_eq F (tgt := 55) dG_pointsOf_46 (by decide) (fun c2 => ?_) (fun c2 => ?_)
        · skip
          have c2 : (gOut γ pf j) = false := bI_0 c2
          refine x_iload_n F 1 dG_pointsOf_55 rfl rfl ?_
          exact x_iret F hr dG_pointsOf_56 (x_e (by rw [gPts, c2, hf]; rfl))
        · skip
          have c2 : (gOut γ pf j) = true := bI_1 c2
          refine x_iload_n F 1 dG_pointsOf_49 rfl rfl ?_
          refine x_iconst F (v := nI (2)) dG_pointsOf_50 (by decide) ?_
          refine x_idiv F dG_pointsOf_51 (by decide) ?_
          refine xW.toi (nI (cq / 2)) (pk_div (by omega) (by omega) (by omega)) ?_
          refine x_goto F (tgt := 56) dG_pointsOf_52 (by decide) ?_
          exact x_iret F hr dG_pointsOf_56 (x_e (by rw [gPts, c2, hf]; rfl))
      · skip
        have c1 : i < (γ.2.2.1).2.2.1 := by
          have z : ¬ ((γ.2.2.1).2.2.1 ≤ i) := fun zz => c1 ((nI_leI (a := (γ.2.2.1).2.2.1) (b := i) (by omega) (by omega)).mpr zz)
          omega
        exact absurd c1 (by omega)
    | succ k ih =>
      intro i cq hi hc hf
      have hw6 := hRd.2.2.2.1
      refine x_iload F 0 dG_pointsOf_5 rfl ?_
      refine x_aload_n F 2 dG_pointsOf_7 rfl rfl ?_
      refine x_get (ci := 5) F 0 (x_in inG) rfl (by decide) (x_m kfG_10) dG_pointsOf_8 h0 rfl ?_
      refine yV (n := 0) (As := []) (ci := 3) F kmG_208 kiR_wordCount ksR_wordCount knR kcR_wordCount (by decide +kernel) dG_pointsOf_11 (cR_wordCount l (nx) M (g + 1) (γ.2.2.1).1 (γ.2.2.1).2.1 (γ.2.2.1).2.2.1 (γ.2.2.1).2.2.2.1 (γ.2.2.1).2.2.2.2.1 (γ.2.2.1).2.2.2.2.2.1 (γ.2.2.1).2.2.2.2.2.2 hRd ) rfl hRd.1 rfl rfl (Nat.le_of_ble_eq_true rfl) ⟨Nat.le_of_ble_eq_true rfl, Nat.le_of_ble_eq_true rfl⟩ ⟨Nat.le_of_ble_eq_true rfl, Nat.le_of_ble_eq_true rfl⟩ ?_
      refine x_icmp_ge F (tgt := 40) dG_pointsOf_14 (by decide) (fun c3 => ?_) (fun c3 => ?_)
      · skip
        have c3 : (γ.2.2.1).2.2.1 ≤ i := by
          exact (nI_leI (a := (γ.2.2.1).2.2.1) (b := i) (by omega) (by omega)).mp c3
        exact absurd c3 (by omega)
      · skip
        have c3 : i < (γ.2.2.1).2.2.1 := by
          have z : ¬ ((γ.2.2.1).2.2.1 ≤ i) := fun zz => c3 ((nI_leI (a := (γ.2.2.1).2.2.1) (b := i) (by omega) (by omega)).mpr zz)
          omega
        refine x_iload_n F 1 dG_pointsOf_17 rfl rfl ?_
        refine x_aload_n F 3 dG_pointsOf_18 rfl rfl ?_
        refine x_iload_n F 4 dG_pointsOf_19 rfl rfl ?_
        refine x_aload_n F 2 dG_pointsOf_20 rfl rfl ?_
        refine x_get (ci := 5) F 0 (x_in inG) rfl (by decide) (x_m kfG_10) dG_pointsOf_21 h0 rfl ?_
        refine x_iload F 0 dG_pointsOf_24 rfl ?_
        refine yV (n := 1) (As := [.int (nI (i))]) (ci := 3) F kmG_211 kiR_wordAt ksR_wordAt knR kcR_wordAt (by decide +kernel) dG_pointsOf_26 (cR_wordAt l (nx) M (g + 1) (γ.2.2.1).1 (γ.2.2.1).2.1 (γ.2.2.1).2.2.1 (γ.2.2.1).2.2.2.1 (γ.2.2.1).2.2.2.2.1 (γ.2.2.1).2.2.2.2.2.1 (γ.2.2.1).2.2.2.2.2.2 hRd i (by omega)) rfl hRd.1 rfl rfl (Nat.le_of_ble_eq_true rfl) ⟨Nat.le_of_ble_eq_true rfl, Nat.le_of_ble_eq_true rfl⟩ ⟨Nat.le_of_ble_eq_true rfl, Nat.le_of_ble_eq_true rfl⟩ ?_
        refine yV (n := 2) (As := [.int (nI (j)), .long ((γ.2.2.1).2.1 (i))]) (ci := 4) F kmG_214 kiT_pointsFor ksT_pointsFor knT kcT_pointsFor (by decide +kernel) dG_pointsOf_29 (cT_pointsFor l (nx) M (g + 18 + 7 * γ.1 γ.2.1) (γ.2.2.2.1 γ.2.1).1 (γ.2.2.2.1 γ.2.1).2.1 (γ.2.2.2.1 γ.2.1).2.2.1 (γ.2.2.2.1 γ.2.1).2.2.2.1 (γ.2.2.2.1 γ.2.1).2.2.2.2.1 (γ.2.2.2.1 γ.2.1).2.2.2.2.2.1 (γ.2.2.2.1 γ.2.1).2.2.2.2.2.2.1 (γ.2.2.2.1 γ.2.1).2.2.2.2.2.2.2 (hTr γ.2.1 (by omega)) pf wn hW j hj ((γ.2.2.1).2.1 (i))) rfl (hTr γ.2.1 (by omega)).1 rfl rfl (Nat.le_of_ble_eq_true rfl) ⟨Nat.le_of_ble_eq_true rfl, Nat.le_of_ble_eq_true rfl⟩ ⟨Nat.le_of_ble_eq_true rfl, Nat.le_of_ble_eq_true rfl⟩ ?_
        have hp4 : gPt1 γ pf wn j i ≤ 4 := tPts_4 _ _ _
        refine x_iadd F dG_pointsOf_32 ?_
        refine xW.toi (nI (cq + gPt1 γ pf wn j i)) (nI_add _ _) ?_
        refine x_istore_n F [(3, .int (nI (cq + gPt1 γ pf wn j i))), (4, .int (nI (i))), (0, .ref (g)), (1, .ref (g + 18 + 7 * γ.1 γ.2.1)), (2, .int (nI (j)))] dG_pointsOf_33 rfl (by decide) rfl ?_
        refine x_iinc F 1 [(4, .int (nI (i + 1))), (3, .int (nI (cq + gPt1 γ pf wn j i))), (0, .ref (g)), (1, .ref (g + 18 + 7 * γ.1 γ.2.1)), (2, .int (nI (j)))] dG_pointsOf_34 rfl (nI_add (i) 1) (by decide) rfl ?_
        refine x_goto F (tgt := 5) dG_pointsOf_37 (by decide) ?_
        exact ih (i + 1) _ (by omega) (by omega) (by rw [hf, psum_s])
  refine x_iconst F (v := nI (0)) dG_pointsOf_0 (by decide) ?_
  refine x_istore_n F [(3, .int (nI (0))), (0, .ref (g)), (1, .ref (g + 18 + 7 * γ.1 γ.2.1)), (2, .int (nI (j)))] dG_pointsOf_1 rfl (by decide) rfl ?_
  refine x_iconst F (v := nI (0)) dG_pointsOf_2 (by decide) ?_
  refine x_istore F [(4, .int (nI (0))), (3, .int (nI (0))), (0, .ref (g)), (1, .ref (g + 18 + 7 * γ.1 γ.2.1)), (2, .int (nI (j)))] dG_pointsOf_3 (by decide) rfl ?_
  exact loop γ.2.2.1.2.2.1 0 0 (by omega) (by omega) rfl
set_option maxHeartbeats 4000000 in
set_option maxRecDepth 100000 in
theorem cG_searchT (l : Launch) (hfl : x_fl l) (nx : Nat) (M : xH) (g : Nat) (γ : gS) (hG : gIs M g γ) (tx : Nat → Nat) (hX : sAt (γ.2.2.1).1 tx (γ.2.2.1).2.2.2.1) (hA : ask tx (γ.2.2.1).2.2.2.1 (γ.2.2.1).2.1 = false) : xT_ l xcl yG_search (xw (Cond.code yG_search bG_search 4 (some .int))) ({ frames := 6, cells := 1, slots := 6, locals := 90 } : Room) [.ref (g)] nx M "java/lang/IllegalStateException" (gPostT nx M g (gRd γ (rSr γ.2.2.1 tx))) := by
  obtain ⟨⟨fT, h0, h4, hfT, hpr, hπ, hπi⟩, hRd, hTr, hNo, hLi, hFi⟩ := id hG
  have hpp := hπ γ.2.1 (by omega)
  refine yCT (by decide) (Nat.le_of_ble_eq_true rfl) ?_
  intro p e s m args below meth c D F hr hex
  refine x_aload_n F 0 dG_search_0 rfl rfl ?_
  refine x_get (ci := 5) F 0 (x_in inG) rfl (by decide) (x_m kfG_10) dG_search_1 h0 rfl ?_
  refine yVr (n := 0) (As := []) (ci := 3) F kmG_174 kiR_readAsked ksR_readAsked knR kcR_readAsked (by decide +kernel) dG_search_4 (cR_readAsked l (nx) M (g + 1) (γ.2.2.1).1 (γ.2.2.1).2.1 (γ.2.2.1).2.2.1 (γ.2.2.1).2.2.2.1 (γ.2.2.1).2.2.2.2.1 (γ.2.2.1).2.2.2.2.2.1 (γ.2.2.1).2.2.2.2.2.2 hRd tx hX) rfl hRd.1 rfl rfl (Nat.le_of_ble_eq_true rfl) ⟨Nat.le_of_ble_eq_true rfl, Nat.le_of_ble_eq_true rfl⟩ ⟨Nat.le_of_ble_eq_true rfl, Nat.le_of_ble_eq_true rfl⟩ (fun r' n' M311 hp => ?_)
  obtain ⟨hr', hn', hR311, hf311⟩ := hp
  rw [hn', hr']
  show xW p l e ({ frames := 6, cells := 1, slots := 6, locals := 90 } : Room) s m args below meth c D xcl (x_A M nx) 4 (x_MQT below D xcl (x_A M nx) "java/lang/IllegalStateException" (gPostT nx M g (gRd γ (rSr γ.2.2.1 tx))) s 1 6) 0 0 (nx) M311 7 [(0, .ref (g))] [.int (bI (ask tx (γ.2.2.1).2.2.2.1 (γ.2.2.1).2.1))]
  refine x_istore_n F [(1, .int (bI (ask tx (γ.2.2.1).2.2.2.1 (γ.2.2.1).2.1))), (0, .ref (g))] dG_search_7 rfl (by decide) rfl ?_
  refine x_aload_n F 1 dG_search_8 rfl rfl ?_
  refine x_get (ci := 5) F 0 (x_in inG) rfl (by decide) (x_m kfG_10) dG_search_9 ((hf311 _ (by omega)).trans h0) rfl ?_
  refine yVr (n := 0) (As := []) (ci := 3) F kmG_61 kiR_clear ksR_clear knR kcR_clear (by decide +kernel) dG_search_12 (cR_clear l (nx) M311 (g + 1) (γ.2.2.1).1 (wds tx (γ.2.2.1).2.2.2.1 6 6 0 0 (γ.2.2.1).2.1).2.2.2 (wds tx (γ.2.2.1).2.2.2.1 6 6 0 0 (γ.2.2.1).2.1).2.1 (γ.2.2.1).2.2.2.1 (wds tx (γ.2.2.1).2.2.2.1 6 6 0 0 (γ.2.2.1).2.1).2.2.1 (if ask tx (γ.2.2.1).2.2.2.1 (γ.2.2.1).2.1 then nI 0 else nI 1) (if ask tx (γ.2.2.1).2.2.2.1 (γ.2.2.1).2.1 then (-1) else nI (wds tx (γ.2.2.1).2.2.2.1 6 6 0 0 (γ.2.2.1).2.1).2.2.1) hR311 ) rfl hR311.1 rfl rfl (Nat.le_of_ble_eq_true rfl) ⟨Nat.le_of_ble_eq_true rfl, Nat.le_of_ble_eq_true rfl⟩ ⟨Nat.le_of_ble_eq_true rfl, Nat.le_of_ble_eq_true rfl⟩ (fun r' n' M312 hp => ?_)
  obtain ⟨hr', hn', hR312, hf312⟩ := hp
  rw [hn', hr']
  show xW p l e ({ frames := 6, cells := 1, slots := 6, locals := 90 } : Room) s m args below meth c D xcl (x_A M nx) 4 (x_MQT below D xcl (x_A M nx) "java/lang/IllegalStateException" (gPostT nx M g (gRd γ (rSr γ.2.2.1 tx))) s 1 6) 0 0 (nx) M312 15 [(1, .int (bI (ask tx (γ.2.2.1).2.2.2.1 (γ.2.2.1).2.1))), (0, .ref (g))] []
  refine x_iload_n F 0 dG_search_15 rfl rfl ?_
  refine x_if_ne F (tgt := 29) dG_search_16 (by decide) (fun c1 => ?_) (fun c1 => ?_)
  · skip
    have c1 : (ask tx (γ.2.2.1).2.2.2.1 (γ.2.2.1).2.1) = true := bI_1 c1
    rw [hA] at c1
    cases c1
  · skip
    have c1 : (ask tx (γ.2.2.1).2.2.2.1 (γ.2.2.1).2.1) = false := bI_0 c1
    exact yT (tx := "the text is no words") F hfl hex x_ok1 klG_62 kqJS knJS kcG_search (by decide) (by decide) dG_search_19 dG_search_22 dG_search_23 dG_search_25 dG_search_28 (Nat.le_of_ble_eq_true rfl) (Nat.le_of_ble_eq_true rfl) (Nat.le_of_ble_eq_true rfl) (Nat.le_of_ble_eq_true rfl) (Nat.le_of_ble_eq_true rfl) (Nat.le_of_ble_eq_true rfl) (fun n' hn' => ⟨hn', ⟨⟨fT, ((hf312 _ (by omega)).trans ((hf311 _ (by omega)).trans h0)), ((hf312 _ (by omega)).trans ((hf311 _ (by omega)).trans h4)), hfT, hpr, hπ, hπi⟩, hR312, (fun i hi => tAt_fr (hTr i hi) (fun b hb hb2 =>  (hf312 _ (by omega)).trans ((hf311 _ (by omega)).trans (rfl)))), (pAt_fr (pAt_fr hNo (fun b _ _ => hf311 b (by omega))) (fun b _ _ => hf312 b (by omega))), (pAt_fr (pAt_fr hLi (fun b _ _ => hf311 b (by omega))) (fun b _ _ => hf312 b (by omega))), (fAt_fr (fAt_fr hFi (fun b _ _ => hf311 b (by omega))) (fun b _ _ => hf312 b (by omega)))⟩, fun b hb => (hf312 _ (by omega)).trans ((hf311 _ (by omega)).trans (rfl))⟩)
set_option maxHeartbeats 4000000 in
set_option maxRecDepth 100000 in
theorem cG_search (l : Launch) (nx : Nat) (M : xH) (g : Nat) (γ : gS) (hG : gIs M g γ) (tx : Nat → Nat) (hX : sAt (γ.2.2.1).1 tx (γ.2.2.1).2.2.2.1) (pf : Nat → Option Nat) (wn : Nat → Nat) (hW : gW γ pf wn) (hA : ask tx (γ.2.2.1).2.2.2.1 (γ.2.2.1).2.1 = true) : xC l xcl yG_search (xw (Cond.code yG_search bG_search 4 (some .int))) ({ frames := 5, cells := 0, slots := 0, locals := 121 } : Room) [.ref (g)] nx M (gPost (some (.int (nI (gSr γ tx pf wn).2.2))) nx M g (gFn (gRd γ (rSr γ.2.2.1 tx)) (gSr γ tx pf wn))) := by
  obtain ⟨⟨fT, h0, h4, hfT, hpr, hπ, hπi⟩, hRd, hTr, hNo, hLi, hFi⟩ := id hG
  have hpp := hπ γ.2.1 (by omega)
  have hn40 := (hTr γ.2.1 (by omega)).2.2.2.2.2.2.2.1
  refine yC (by decide) (Nat.le_of_ble_eq_true rfl) ?_
  intro p e s m args below meth c D F hr hn
  generalize hφ : gSr γ tx pf wn = φr
  generalize hγ : gFn (gRd γ (rSr γ.2.2.1 tx)) φr = γr
  have loop : ∀ (k : Nat) (i : Nat) (γ1 : gS) (M1 : xH), i + k = (γ1.2.2.2.1 γ1.2.1).2.2.2.2.2.2.1 → γ1.2.2.2.2.2.2.2.2 ≤ i → gIs M1 g γ1 → gW γ1 pf wn → (∀ b, (b < g ∨ g + 45 < b) → M1 b = M b) → gFn γ1 φr = γr → srF (gPts γ1 pf wn) (γ1.2.2.2.1 γ1.2.1).1 k i γ1.2.2.2.2.2.2 = φr → xW p l e ({ frames := 5, cells := 0, slots := 0, locals := 121 } : Room) s m args below meth c D xcl (x_A M nx) 4 (MQ below (x_Q D xcl (x_A M nx) (gPost (some (.int (nI φr.2.2))) nx M g γr)) args s 0 0 (x_A M nx)) 0 0 (nx) M1 48 [(3, .int (nI (i))), (2, .ref (g + 18 + 7 * γ1.1 γ1.2.1)), (0, .ref (g))] [] := by
    intro k
    induction k with
    | zero =>
      intro i γ1 M1 hi hfi hG1 hW1 hfr hs hf
      obtain ⟨⟨gT, g0, g4, gfT, gpr, gπ, gπi⟩, gRd_, gTr, gNo, gLi, gFi⟩ := id hG1
      have gpp := gπ γ1.2.1 (by omega)
      have gn40 := (gTr γ1.2.1 (by omega)).2.2.2.2.2.2.2.1
      have gf40 := gFi.2.2.2
      refine x_iload_n F 0 dG_search_48 rfl rfl ?_
      refine x_aload_n F 1 dG_search_49 rfl rfl ?_
      refine yV (n := 0) (As := []) (ci := 4) F kmG_75 kiT_size ksT_size knT kcT_size (by decide +kernel) dG_search_50 (cT_size l (nx) M1 (g + 18 + 7 * γ1.1 γ1.2.1) (γ1.2.2.2.1 γ1.2.1).1 (γ1.2.2.2.1 γ1.2.1).2.1 (γ1.2.2.2.1 γ1.2.1).2.2.1 (γ1.2.2.2.1 γ1.2.1).2.2.2.1 (γ1.2.2.2.1 γ1.2.1).2.2.2.2.1 (γ1.2.2.2.1 γ1.2.1).2.2.2.2.2.1 (γ1.2.2.2.1 γ1.2.1).2.2.2.2.2.2.1 (γ1.2.2.2.1 γ1.2.1).2.2.2.2.2.2.2 (gTr γ1.2.1 (by omega)) ) rfl (gTr γ1.2.1 (by omega)).1 rfl rfl (Nat.le_of_ble_eq_true rfl) ⟨Nat.le_of_ble_eq_true rfl, Nat.le_of_ble_eq_true rfl⟩ ⟨Nat.le_of_ble_eq_true rfl, Nat.le_of_ble_eq_true rfl⟩ ?_
      refine x_icmp_ge F (tgt := 80) dG_search_53 (by decide) (fun c1 => ?_) (fun c1 => ?_)
      · skip
        have c1 : (γ1.2.2.2.1 γ1.2.1).2.2.2.2.2.2.1 ≤ i := by
          exact (nI_leI (a := (γ1.2.2.2.1 γ1.2.1).2.2.2.2.2.2.1) (b := i) (by omega) (by omega)).mp c1
        refine x_aload_n F 2 dG_search_80 rfl rfl ?_
        refine x_get (ci := 5) F 4 (x_in inG) rfl (by decide) (x_m kfG_37) dG_search_81 g0 rfl ?_
        refine yV (n := 0) (As := []) (ci := 1) F kmG_187 kiF_size ksF_size knF kcF_size (by decide +kernel) dG_search_84 (cF_size l (nx) M1 (g + 15) (γ1.2.2.2.2.2.2).1 (γ1.2.2.2.2.2.2).2.1 (γ1.2.2.2.2.2.2).2.2 gFi ) rfl gFi.1 rfl rfl (Nat.le_of_ble_eq_true rfl) ⟨Nat.le_of_ble_eq_true rfl, Nat.le_of_ble_eq_true rfl⟩ ⟨Nat.le_of_ble_eq_true rfl, Nat.le_of_ble_eq_true rfl⟩ ?_
        exact x_iret F hr dG_search_87 (by rw [← hs, ← show srF (gPts γ1 pf wn) (γ1.2.2.2.1 γ1.2.1).1 0 i γ1.2.2.2.2.2.2 = φr from hf]; exact ⟨rfl, rfl, hG1, hfr⟩)
      · skip
        have c1 : i < (γ1.2.2.2.1 γ1.2.1).2.2.2.2.2.2.1 := by
          have z : ¬ ((γ1.2.2.2.1 γ1.2.1).2.2.2.2.2.2.1 ≤ i) := fun zz => c1 ((nI_leI (a := (γ1.2.2.2.1 γ1.2.1).2.2.2.2.2.2.1) (b := i) (by omega) (by omega)).mpr zz)
          omega
        exact absurd c1 (by omega)
    | succ k ih =>
      intro i γ1 M1 hi hfi hG1 hW1 hfr hs hf
      obtain ⟨⟨gT, g0, g4, gfT, gpr, gπ, gπi⟩, gRd_, gTr, gNo, gLi, gFi⟩ := id hG1
      have gpp := gπ γ1.2.1 (by omega)
      have gn40 := (gTr γ1.2.1 (by omega)).2.2.2.2.2.2.2.1
      have gf40 := gFi.2.2.2
      refine x_iload_n F 0 dG_search_48 rfl rfl ?_
      refine x_aload_n F 1 dG_search_49 rfl rfl ?_
      refine yV (n := 0) (As := []) (ci := 4) F kmG_75 kiT_size ksT_size knT kcT_size (by decide +kernel) dG_search_50 (cT_size l (nx) M1 (g + 18 + 7 * γ1.1 γ1.2.1) (γ1.2.2.2.1 γ1.2.1).1 (γ1.2.2.2.1 γ1.2.1).2.1 (γ1.2.2.2.1 γ1.2.1).2.2.1 (γ1.2.2.2.1 γ1.2.1).2.2.2.1 (γ1.2.2.2.1 γ1.2.1).2.2.2.2.1 (γ1.2.2.2.1 γ1.2.1).2.2.2.2.2.1 (γ1.2.2.2.1 γ1.2.1).2.2.2.2.2.2.1 (γ1.2.2.2.1 γ1.2.1).2.2.2.2.2.2.2 (gTr γ1.2.1 (by omega)) ) rfl (gTr γ1.2.1 (by omega)).1 rfl rfl (Nat.le_of_ble_eq_true rfl) ⟨Nat.le_of_ble_eq_true rfl, Nat.le_of_ble_eq_true rfl⟩ ⟨Nat.le_of_ble_eq_true rfl, Nat.le_of_ble_eq_true rfl⟩ ?_
      refine x_icmp_ge F (tgt := 80) dG_search_53 (by decide) (fun c2 => ?_) (fun c2 => ?_)
      · skip
        have c2 : (γ1.2.2.2.1 γ1.2.1).2.2.2.2.2.2.1 ≤ i := by
          exact (nI_leI (a := (γ1.2.2.2.1 γ1.2.1).2.2.2.2.2.2.1) (b := i) (by omega) (by omega)).mp c2
        exact absurd c2 (by omega)
      · skip
        have c2 : i < (γ1.2.2.2.1 γ1.2.1).2.2.2.2.2.2.1 := by
          have z : ¬ ((γ1.2.2.2.1 γ1.2.1).2.2.2.2.2.2.1 ≤ i) := fun zz => c2 ((nI_leI (a := (γ1.2.2.2.1 γ1.2.1).2.2.2.2.2.2.1) (b := i) (by omega) (by omega)).mpr zz)
          omega
        refine x_aload_n F 2 dG_search_56 rfl rfl ?_
        refine x_get (ci := 5) F 4 (x_in inG) rfl (by decide) (x_m kfG_37) dG_search_57 g0 rfl ?_
        refine x_aload_n F 1 dG_search_60 rfl rfl ?_
        refine x_iload_n F 0 dG_search_61 rfl rfl ?_
        refine yV (n := 1) (As := [.int (nI (i))]) (ci := 4) F kmG_96 kiT_codeOf ksT_codeOf knT kcT_codeOf (by decide +kernel) dG_search_62 (cT_codeOf l (nx) M1 (g + 18 + 7 * γ1.1 γ1.2.1) (γ1.2.2.2.1 γ1.2.1).1 (γ1.2.2.2.1 γ1.2.1).2.1 (γ1.2.2.2.1 γ1.2.1).2.2.1 (γ1.2.2.2.1 γ1.2.1).2.2.2.1 (γ1.2.2.2.1 γ1.2.1).2.2.2.2.1 (γ1.2.2.2.1 γ1.2.1).2.2.2.2.2.1 (γ1.2.2.2.1 γ1.2.1).2.2.2.2.2.2.1 (γ1.2.2.2.1 γ1.2.1).2.2.2.2.2.2.2 (gTr γ1.2.1 (by omega)) i (by omega)) rfl (gTr γ1.2.1 (by omega)).1 rfl rfl (Nat.le_of_ble_eq_true rfl) ⟨Nat.le_of_ble_eq_true rfl, Nat.le_of_ble_eq_true rfl⟩ ⟨Nat.le_of_ble_eq_true rfl, Nat.le_of_ble_eq_true rfl⟩ ?_
        refine x_aload_n F 2 dG_search_65 rfl rfl ?_
        refine x_aload_n F 1 dG_search_66 rfl rfl ?_
        refine x_iload_n F 0 dG_search_67 rfl rfl ?_
        refine yV (n := 2) (As := [.ref (g + 18 + 7 * γ1.1 γ1.2.1), .int (nI (i))]) (ci := 5) F kmG_180 kiG_pointsOf ksG_pointsOf knG kcG_pointsOf (by decide +kernel) dG_search_68 (cG_pointsOf l (nx) M1 g γ1 hG1 pf wn hW1 i (by omega)) rfl g0 rfl rfl (Nat.le_of_ble_eq_true rfl) ⟨Nat.le_of_ble_eq_true rfl, Nat.le_of_ble_eq_true rfl⟩ ⟨Nat.le_of_ble_eq_true rfl, Nat.le_of_ble_eq_true rfl⟩ ?_
        refine yVr (n := 2) (As := [.long ((γ1.2.2.2.1 γ1.2.1).1 (i)), .int (nI (gPts γ1 pf wn i))]) (ci := 1) F kmG_184 kiF_add ksF_add knF kcF_add (by decide +kernel) dG_search_71 (cF_add l (nx) M1 (g + 15) (γ1.2.2.2.2.2.2).1 (γ1.2.2.2.2.2.2).2.1 (γ1.2.2.2.2.2.2).2.2 gFi (by omega) ((γ1.2.2.2.1 γ1.2.1).1 (i)) (nI (gPts γ1 pf wn i))) rfl gFi.1 rfl rfl (Nat.le_of_ble_eq_true rfl) ⟨Nat.le_of_ble_eq_true rfl, Nat.le_of_ble_eq_true rfl⟩ ⟨Nat.le_of_ble_eq_true rfl, Nat.le_of_ble_eq_true rfl⟩ (fun r' n' M317 hp => ?_)
        obtain ⟨hr', hn', hF317, hf317⟩ := hp
        rw [hn', hr']
        show xW p l e ({ frames := 5, cells := 0, slots := 0, locals := 121 } : Room) s m args below meth c D xcl (x_A M nx) 4 (MQ below (x_Q D xcl (x_A M nx) (gPost (some (.int (nI φr.2.2))) nx M g γr)) args s 0 0 (x_A M nx)) 0 0 (nx) M317 74 [(3, .int (nI (i))), (2, .ref (g + 18 + 7 * γ1.1 γ1.2.1)), (0, .ref (g))] []
        refine x_iinc F 0 [(3, .int (nI (i + 1))), (2, .ref (g + 18 + 7 * γ1.1 γ1.2.1)), (0, .ref (g))] dG_search_74 rfl (nI_add (i) 1) (by decide) rfl ?_
        refine x_goto F (tgt := 48) dG_search_77 (by decide) ?_
        exact ih (i + 1) (gFn γ1 (fadd γ1.2.2.2.2.2.2 ((γ1.2.2.2.1 γ1.2.1).1 i) (nI (gPts γ1 pf wn i)))) _ (by show i + 1 + k = (γ1.2.2.2.1 γ1.2.1).2.2.2.2.2.2.1; omega) (by have := fadd_n γ1.2.2.2.2.2.2 ((γ1.2.2.2.1 γ1.2.1).1 i) (nI (gPts γ1 pf wn i)); show (fadd γ1.2.2.2.2.2.2 ((γ1.2.2.2.1 γ1.2.1).1 i) (nI (gPts γ1 pf wn i))).2.2 ≤ i + 1; omega) ⟨⟨gT, ((hf317 _ (by omega)).trans g0), ((hf317 _ (by omega)).trans g4), gfT, gpr, gπ, gπi⟩, (rAt_fr gRd_ (fun b _ _ => hf317 b (by omega))), (fun i2 hi2 => tAt_fr (gTr i2 hi2) (fun b hb hb2 => (hf317 _ (by omega)))), (pAt_fr gNo (fun b _ _ => hf317 b (by omega))), (pAt_fr gLi (fun b _ _ => hf317 b (by omega))), hF317⟩ hW1 (fun b hb => (hf317 _ (by omega)).trans ((hfr _ hb).trans (rfl))) hs (by rw [srF_s] at hf; exact hf)
  refine x_aload_n F 0 dG_search_0 rfl rfl ?_
  refine x_get (ci := 5) F 0 (x_in inG) rfl (by decide) (x_m kfG_10) dG_search_1 h0 rfl ?_
  refine yVr (n := 0) (As := []) (ci := 3) F kmG_174 kiR_readAsked ksR_readAsked knR kcR_readAsked (by decide +kernel) dG_search_4 (cR_readAsked l (nx) M (g + 1) (γ.2.2.1).1 (γ.2.2.1).2.1 (γ.2.2.1).2.2.1 (γ.2.2.1).2.2.2.1 (γ.2.2.1).2.2.2.2.1 (γ.2.2.1).2.2.2.2.2.1 (γ.2.2.1).2.2.2.2.2.2 hRd tx hX) rfl hRd.1 rfl rfl (Nat.le_of_ble_eq_true rfl) ⟨Nat.le_of_ble_eq_true rfl, Nat.le_of_ble_eq_true rfl⟩ ⟨Nat.le_of_ble_eq_true rfl, Nat.le_of_ble_eq_true rfl⟩ (fun r' n' M318 hp => ?_)
  obtain ⟨hr', hn', hR318, hf318⟩ := hp
  rw [hn', hr']
  show xW p l e ({ frames := 5, cells := 0, slots := 0, locals := 121 } : Room) s m args below meth c D xcl (x_A M nx) 4 (MQ below (x_Q D xcl (x_A M nx) (gPost (some (.int (nI φr.2.2))) nx M g γr)) args s 0 0 (x_A M nx)) 0 0 (nx) M318 7 [(0, .ref (g))] [.int (bI (ask tx (γ.2.2.1).2.2.2.1 (γ.2.2.1).2.1))]
  refine x_istore_n F [(1, .int (bI (ask tx (γ.2.2.1).2.2.2.1 (γ.2.2.1).2.1))), (0, .ref (g))] dG_search_7 rfl (by decide) rfl ?_
  refine x_aload_n F 1 dG_search_8 rfl rfl ?_
  refine x_get (ci := 5) F 0 (x_in inG) rfl (by decide) (x_m kfG_10) dG_search_9 ((hf318 _ (by omega)).trans h0) rfl ?_
  refine yVr (n := 0) (As := []) (ci := 3) F kmG_61 kiR_clear ksR_clear knR kcR_clear (by decide +kernel) dG_search_12 (cR_clear l (nx) M318 (g + 1) (γ.2.2.1).1 (wds tx (γ.2.2.1).2.2.2.1 6 6 0 0 (γ.2.2.1).2.1).2.2.2 (wds tx (γ.2.2.1).2.2.2.1 6 6 0 0 (γ.2.2.1).2.1).2.1 (γ.2.2.1).2.2.2.1 (wds tx (γ.2.2.1).2.2.2.1 6 6 0 0 (γ.2.2.1).2.1).2.2.1 (if ask tx (γ.2.2.1).2.2.2.1 (γ.2.2.1).2.1 then nI 0 else nI 1) (if ask tx (γ.2.2.1).2.2.2.1 (γ.2.2.1).2.1 then (-1) else nI (wds tx (γ.2.2.1).2.2.2.1 6 6 0 0 (γ.2.2.1).2.1).2.2.1) hR318 ) rfl hR318.1 rfl rfl (Nat.le_of_ble_eq_true rfl) ⟨Nat.le_of_ble_eq_true rfl, Nat.le_of_ble_eq_true rfl⟩ ⟨Nat.le_of_ble_eq_true rfl, Nat.le_of_ble_eq_true rfl⟩ (fun r' n' M319 hp => ?_)
  obtain ⟨hr', hn', hR319, hf319⟩ := hp
  rw [hn', hr']
  show xW p l e ({ frames := 5, cells := 0, slots := 0, locals := 121 } : Room) s m args below meth c D xcl (x_A M nx) 4 (MQ below (x_Q D xcl (x_A M nx) (gPost (some (.int (nI φr.2.2))) nx M g γr)) args s 0 0 (x_A M nx)) 0 0 (nx) M319 15 [(1, .int (bI (ask tx (γ.2.2.1).2.2.2.1 (γ.2.2.1).2.1))), (0, .ref (g))] []
  refine x_iload_n F 0 dG_search_15 rfl rfl ?_
  refine x_if_ne F (tgt := 29) dG_search_16 (by decide) (fun c3 => ?_) (fun c3 => ?_)
  · skip
    have c3 : (ask tx (γ.2.2.1).2.2.2.1 (γ.2.2.1).2.1) = true := bI_1 c3
    refine x_aload_n F 1 dG_search_29 rfl rfl ?_
    refine x_get (ci := 5) F 1 (x_in inG) rfl (by decide) (x_m kfG_18) dG_search_30 ((hf319 _ (by omega)).trans ((hf318 _ (by omega)).trans h0)) rfl ?_
    refine x_aload_n F 1 dG_search_33 rfl rfl ?_
    refine x_get (ci := 5) F 6 (x_in inG) rfl (by decide) (x_m kfG_46) dG_search_34 ((hf319 _ (by omega)).trans ((hf318 _ (by omega)).trans h0)) rfl ?_
    refine x_aald F dG_search_37 ((hf319 _ (by omega)).trans ((hf318 _ (by omega)).trans h4)) (pk_in (γ.2.1) (3) (by omega)) ?_
    rw [nI_clamp (show γ.2.1 < 2 ^ 31 by omega), hfT _ (by omega)]
    show xW p l e ({ frames := 5, cells := 0, slots := 0, locals := 121 } : Room) s m args below meth c D xcl (x_A M nx) 4 (MQ below (x_Q D xcl (x_A M nx) (gPost (some (.int (nI φr.2.2))) nx M g γr)) args s 0 0 (x_A M nx)) 0 0 (nx) M319 38 [(1, .int (bI (ask tx (γ.2.2.1).2.2.2.1 (γ.2.2.1).2.1))), (0, .ref (g))] [.ref (g + 18 + 7 * γ.1 γ.2.1)]
    refine x_astore_n F [(2, .ref (g + 18 + 7 * γ.1 γ.2.1)), (1, .int (bI (ask tx (γ.2.2.1).2.2.2.1 (γ.2.2.1).2.1))), (0, .ref (g))] dG_search_38 rfl (by decide) rfl ?_
    refine x_aload_n F 2 dG_search_39 rfl rfl ?_
    refine x_get (ci := 5) F 4 (x_in inG) rfl (by decide) (x_m kfG_37) dG_search_40 ((hf319 _ (by omega)).trans ((hf318 _ (by omega)).trans h0)) rfl ?_
    refine yVr (n := 0) (As := []) (ci := 1) F kmG_179 kiF_clear ksF_clear knF kcF_clear (by decide +kernel) dG_search_43 (cF_clear l (nx) M319 (g + 15) (γ.2.2.2.2.2.2).1 (γ.2.2.2.2.2.2).2.1 (γ.2.2.2.2.2.2).2.2 (fAt_fr (fAt_fr hFi (fun b _ _ => hf318 b (by omega))) (fun b _ _ => hf319 b (by omega))) ) rfl ((hf319 _ (by omega)).trans ((hf318 _ (by omega)).trans hFi.1)) rfl rfl (Nat.le_of_ble_eq_true rfl) ⟨Nat.le_of_ble_eq_true rfl, Nat.le_of_ble_eq_true rfl⟩ ⟨Nat.le_of_ble_eq_true rfl, Nat.le_of_ble_eq_true rfl⟩ (fun r' n' M320 hp => ?_)
    obtain ⟨hr', hn', hF320, hf320⟩ := hp
    rw [hn', hr']
    show xW p l e ({ frames := 5, cells := 0, slots := 0, locals := 121 } : Room) s m args below meth c D xcl (x_A M nx) 4 (MQ below (x_Q D xcl (x_A M nx) (gPost (some (.int (nI φr.2.2))) nx M g γr)) args s 0 0 (x_A M nx)) 0 0 (nx) M320 46 [(2, .ref (g + 18 + 7 * γ.1 γ.2.1)), (1, .int (bI (ask tx (γ.2.2.1).2.2.2.1 (γ.2.2.1).2.1))), (0, .ref (g))] []
    refine x_iconst F (v := nI (0)) dG_search_46 (by decide) ?_
    refine x_istore_n F [(3, .int (nI (0))), (2, .ref (g + 18 + 7 * γ.1 γ.2.1)), (1, .int (bI (ask tx (γ.2.2.1).2.2.2.1 (γ.2.2.1).2.1))), (0, .ref (g))] dG_search_47 rfl (by decide) rfl ?_
    refine xW.sub [0, 1, 3] rfl ?_
    exact loop (γ.2.2.2.1 γ.2.1).2.2.2.2.2.2.1 0 (gFn (gRd γ (rSr γ.2.2.1 tx)) (γ.2.2.2.2.2.2.1, γ.2.2.2.2.2.2.2.1, 0)) _ (by show 0 + (γ.2.2.2.1 γ.2.1).2.2.2.2.2.2.1 = (γ.2.2.2.1 γ.2.1).2.2.2.2.2.2.1; omega) (Nat.zero_le _) ⟨⟨fT, ((hf320 _ (by omega)).trans ((hf319 _ (by omega)).trans ((hf318 _ (by omega)).trans h0))), ((hf320 _ (by omega)).trans ((hf319 _ (by omega)).trans ((hf318 _ (by omega)).trans h4))), hfT, hpr, hπ, hπi⟩, (rAt_fr hR319 (fun b _ _ => hf320 b (by omega))), (fun i hi => tAt_fr (hTr i hi) (fun b hb hb2 =>  (hf320 _ (by omega)).trans ((hf319 _ (by omega)).trans ((hf318 _ (by omega)).trans (rfl))))), (pAt_fr (pAt_fr (pAt_fr hNo (fun b _ _ => hf318 b (by omega))) (fun b _ _ => hf319 b (by omega))) (fun b _ _ => hf320 b (by omega))), (pAt_fr (pAt_fr (pAt_fr hLi (fun b _ _ => hf318 b (by omega))) (fun b _ _ => hf319 b (by omega))) (fun b _ _ => hf320 b (by omega))), hF320⟩ hW (fun b hb => (hf320 _ (by omega)).trans ((hf319 _ (by omega)).trans ((hf318 _ (by omega)).trans (rfl)))) hγ hφ
  · skip
    have c3 : (ask tx (γ.2.2.1).2.2.2.1 (γ.2.2.1).2.1) = false := bI_0 c3
    rw [hA] at c3
    cases c3
set_option maxHeartbeats 4000000 in
set_option maxRecDepth 100000 in
theorem cG_read (l : Launch) (nx : Nat) (M : xH) (g : Nat) (γ : gS) (hG : gIs M g γ) (tx : Nat → Nat) (hX : sAt (γ.2.2.1).1 tx (γ.2.2.1).2.2.2.1) (hN : (gRx γ tx).1 = none) : xC l xcl yG_read (xw (Cond.code yG_read bG_read 3 (some .int))) ({ frames := 6, cells := 0, slots := 0, locals := 143 } : Room) [.ref (g)] nx M (fun r n' M' => r = some (.int (nI (gRx γ tx).2.2.2.2.2.2.2.1)) ∧ n' = nx ∧ ∃ (w2 : Nat → Int64) (c2 q2 : Nat), gIs M' g (gRead γ (γ.2.2.1.1, w2, c2, 0, q2, nI 0, -1) (gRx γ tx).2) ∧ ∀ b, (b < g ∨ g + 45 < b) → M' b = M b) := by
  obtain ⟨⟨fT, h0, h4, hfT, hpr, hπ, hπi⟩, hRd, hTr, hNo, hLi, hFi⟩ := id hG
  have hpp := hπ γ.2.1 (by omega)
  have h33 := hπ 3 (by omega)
  refine yC (by decide) (Nat.le_of_ble_eq_true rfl) ?_
  intro p e s m args below meth c D F hr hn
  refine x_aload_n F 0 dG_read_0 rfl rfl ?_
  refine x_get (ci := 5) F 5 (x_in inG) rfl (by decide) (x_m kfG_42) dG_read_1 h0 rfl ?_
  refine yVr (n := 0) (As := []) (ci := 4) F kmG_54 kiT_clear ksT_clear knT kcT_clear (by decide +kernel) dG_read_4 (cT_clear l (nx) M (g + 18 + 7 * γ.1 3) (γ.2.2.2.1 3).1 (γ.2.2.2.1 3).2.1 (γ.2.2.2.1 3).2.2.1 (γ.2.2.2.1 3).2.2.2.1 (γ.2.2.2.1 3).2.2.2.2.1 (γ.2.2.2.1 3).2.2.2.2.2.1 (γ.2.2.2.1 3).2.2.2.2.2.2.1 (γ.2.2.2.1 3).2.2.2.2.2.2.2 (hTr 3 (by omega))) rfl (hTr 3 (by omega)).1 rfl rfl (Nat.le_of_ble_eq_true rfl) ⟨Nat.le_of_ble_eq_true rfl, Nat.le_of_ble_eq_true rfl⟩ ⟨Nat.le_of_ble_eq_true rfl, Nat.le_of_ble_eq_true rfl⟩ (fun r' n' M327 hp => ?_)
  obtain ⟨hr', hn', hT327, hf327⟩ := hp
  rw [hn', hr']
  show xW p l e ({ frames := 6, cells := 0, slots := 0, locals := 143 } : Room) s m args below meth c D xcl (x_A M nx) 3 (MQ below (x_Q D xcl (x_A M nx) (fun r n' M' => r = some (.int (nI (gRx γ tx).2.2.2.2.2.2.2.1)) ∧ n' = nx ∧ ∃ (w2 : Nat → Int64) (c2 q2 : Nat), gIs M' g (gRead γ (γ.2.2.1.1, w2, c2, 0, q2, nI 0, -1) (gRx γ tx).2) ∧ ∀ b, (b < g ∨ g + 45 < b) → M' b = M b)) args s 0 0 (x_A M nx)) 0 0 (nx) M327 7 [(0, .ref (g))] []
  refine x_aload_n F 0 dG_read_7 rfl rfl ?_
  refine x_get (ci := 5) F 0 (x_in inG) rfl (by decide) (x_m kfG_10) dG_read_8 ((hf327 _ (by omega)).trans h0) rfl ?_
  refine x_aload_n F 0 dG_read_11 rfl rfl ?_
  refine x_get (ci := 5) F 5 (x_in inG) rfl (by decide) (x_m kfG_42) dG_read_12 ((hf327 _ (by omega)).trans h0) rfl ?_
  refine yVr (n := 1) (As := [.ref (g + 18 + 7 * γ.1 3)]) (ci := 3) F kmG_57 kiR_readRows ksR_readRows knR kcR_readRows (by decide +kernel) dG_read_15 (xC.weak (post' := fun o n' M' => n' = nx ∧ (∀ b, (b < g + 1 ∨ g + 1 + 2 < b) ∧ (b < g + 18 + 7 * γ.1 3 ∨ g + 18 + 7 * γ.1 3 + 6 < b) → M' b = M327 b) ∧ o = some (.int (nI 1)) ∧ tIs M' (g + 18 + 7 * γ.1 3) (gRx γ tx).2 ∧ ∃ (w2 : Nat → Int64) (c2 q2 : Nat), rAt M' (g + 1) (γ.2.2.1).1 w2 c2 (γ.2.2.1).2.2.2.1 q2 (nI 0) (-1)) (cR_readRows l (nx) M327 (g + 1) (γ.2.2.1).1 (γ.2.2.1).2.1 (γ.2.2.1).2.2.1 (γ.2.2.1).2.2.2.1 (γ.2.2.1).2.2.2.2.1 (γ.2.2.1).2.2.2.2.2.1 (γ.2.2.1).2.2.2.2.2.2 (rAt_fr hRd (fun b _ _ => hf327 b (by omega))) tx hX (g + 18 + 7 * γ.1 3) (tClr (γ.2.2.2.1 3)) hT327 (Nat.le_refl _) (by omega)) (fun o n' M' hp => by obtain ⟨p1, p2, p3⟩ := hp; rw [show (rdx tx (γ.2.2.1).2.2.2.1 (γ.2.2.1).2.1 (tClr (γ.2.2.2.1 3))).1 = none from hN] at p3; exact ⟨p1, p2, p3⟩)) rfl ((hf327 _ (by omega)).trans hRd.1) rfl rfl (Nat.le_of_ble_eq_true rfl) ⟨Nat.le_of_ble_eq_true rfl, Nat.le_of_ble_eq_true rfl⟩ ⟨Nat.le_of_ble_eq_true rfl, Nat.le_of_ble_eq_true rfl⟩ (fun r' n' M328 hp => ?_)
  obtain ⟨hn', hf328, hr', hT328, w2, c2, q2, hR328⟩ := hp
  rw [hn', hr']
  show xW p l e ({ frames := 6, cells := 0, slots := 0, locals := 143 } : Room) s m args below meth c D xcl (x_A M nx) 3 (MQ below (x_Q D xcl (x_A M nx) (fun r n' M' => r = some (.int (nI (gRx γ tx).2.2.2.2.2.2.2.1)) ∧ n' = nx ∧ ∃ (w2 : Nat → Int64) (c2 q2 : Nat), gIs M' g (gRead γ (γ.2.2.1.1, w2, c2, 0, q2, nI 0, -1) (gRx γ tx).2) ∧ ∀ b, (b < g ∨ g + 45 < b) → M' b = M b)) args s 0 0 (x_A M nx)) 0 0 (nx) M328 18 [(0, .ref (g))] [.int (nI (1))]
  refine x_istore_n F [(1, .int (nI (1))), (0, .ref (g))] dG_read_18 rfl (by decide) rfl ?_
  refine x_aload_n F 1 dG_read_19 rfl rfl ?_
  refine x_get (ci := 5) F 0 (x_in inG) rfl (by decide) (x_m kfG_10) dG_read_20 ((hf328 _ (by omega)).trans ((hf327 _ (by omega)).trans h0)) rfl ?_
  refine yVr (n := 0) (As := []) (ci := 3) F kmG_61 kiR_clear ksR_clear knR kcR_clear (by decide +kernel) dG_read_23 (cR_clear l (nx) M328 (g + 1) (γ.2.2.1).1 w2 c2 (γ.2.2.1).2.2.2.1 q2 (nI 0) (-1) hR328 ) rfl hR328.1 rfl rfl (Nat.le_of_ble_eq_true rfl) ⟨Nat.le_of_ble_eq_true rfl, Nat.le_of_ble_eq_true rfl⟩ ⟨Nat.le_of_ble_eq_true rfl, Nat.le_of_ble_eq_true rfl⟩ (fun r' n' M329 hp => ?_)
  obtain ⟨hr', hn', hR329, hf329⟩ := hp
  rw [hn', hr']
  show xW p l e ({ frames := 6, cells := 0, slots := 0, locals := 143 } : Room) s m args below meth c D xcl (x_A M nx) 3 (MQ below (x_Q D xcl (x_A M nx) (fun r n' M' => r = some (.int (nI (gRx γ tx).2.2.2.2.2.2.2.1)) ∧ n' = nx ∧ ∃ (w2 : Nat → Int64) (c2 q2 : Nat), gIs M' g (gRead γ (γ.2.2.1.1, w2, c2, 0, q2, nI 0, -1) (gRx γ tx).2) ∧ ∀ b, (b < g ∨ g + 45 < b) → M' b = M b)) args s 0 0 (x_A M nx)) 0 0 (nx) M329 26 [(1, .int (nI (1))), (0, .ref (g))] []
  refine x_iload_n F 0 dG_read_26 rfl rfl ?_
  refine x_if_ne F (tgt := 40) dG_read_27 (by decide) (fun c1 => ?_) (fun c1 => ?_)
  · skip
    have c1 : 1 ≠ 0 := by
      have z : ¬ (1 = 0) := fun zz => c1 ((nI_eq (a := 1) (b := 0) (by omega) (by omega)).mpr zz)
      omega
    refine x_aload_n F 1 dG_read_40 rfl rfl ?_
    refine x_get (ci := 5) F 1 (x_in inG) rfl (by decide) (x_m kfG_18) dG_read_41 ((hf329 _ (by omega)).trans ((hf328 _ (by omega)).trans ((hf327 _ (by omega)).trans h0))) rfl ?_
    refine x_aload_n F 1 dG_read_44 rfl rfl ?_
    refine x_get (ci := 5) F 6 (x_in inG) rfl (by decide) (x_m kfG_46) dG_read_45 ((hf329 _ (by omega)).trans ((hf328 _ (by omega)).trans ((hf327 _ (by omega)).trans h0))) rfl ?_
    refine x_aald F dG_read_48 ((hf329 _ (by omega)).trans ((hf328 _ (by omega)).trans ((hf327 _ (by omega)).trans h4))) (pk_in (γ.2.1) (3) (by omega)) ?_
    rw [nI_clamp (show γ.2.1 < 2 ^ 31 by omega), hfT _ (by omega)]
    show xW p l e ({ frames := 6, cells := 0, slots := 0, locals := 143 } : Room) s m args below meth c D xcl (x_A M nx) 3 (MQ below (x_Q D xcl (x_A M nx) (fun r n' M' => r = some (.int (nI (gRx γ tx).2.2.2.2.2.2.2.1)) ∧ n' = nx ∧ ∃ (w2 : Nat → Int64) (c2 q2 : Nat), gIs M' g (gRead γ (γ.2.2.1.1, w2, c2, 0, q2, nI 0, -1) (gRx γ tx).2) ∧ ∀ b, (b < g ∨ g + 45 < b) → M' b = M b)) args s 0 0 (x_A M nx)) 0 0 (nx) M329 49 [(1, .int (nI (1))), (0, .ref (g))] [.ref (g + 18 + 7 * γ.1 γ.2.1)]
    refine x_astore_n F [(2, .ref (g + 18 + 7 * γ.1 γ.2.1)), (1, .int (nI (1))), (0, .ref (g))] dG_read_49 rfl (by decide) rfl ?_
    refine x_aload_n F 2 dG_read_50 rfl rfl ?_
    refine x_get (ci := 5) F 1 (x_in inG) rfl (by decide) (x_m kfG_18) dG_read_51 ((hf329 _ (by omega)).trans ((hf328 _ (by omega)).trans ((hf327 _ (by omega)).trans h0))) rfl ?_
    refine x_aload_n F 2 dG_read_54 rfl rfl ?_
    refine x_get (ci := 5) F 6 (x_in inG) rfl (by decide) (x_m kfG_46) dG_read_55 ((hf329 _ (by omega)).trans ((hf328 _ (by omega)).trans ((hf327 _ (by omega)).trans h0))) rfl ?_
    refine x_aload_n F 2 dG_read_58 rfl rfl ?_
    refine x_get (ci := 5) F 5 (x_in inG) rfl (by decide) (x_m kfG_42) dG_read_59 ((hf329 _ (by omega)).trans ((hf328 _ (by omega)).trans ((hf327 _ (by omega)).trans h0))) rfl ?_
    refine x_aast F (ci := 4) rfl dG_read_62 ((hf329 _ (by omega)).trans ((hf328 _ (by omega)).trans ((hf327 _ (by omega)).trans h4))) ((hf329 _ (by omega)).trans hT328.1) (pk_in (γ.2.1) (3) (by omega)) ?_
    rw [nI_clamp (show γ.2.1 < 2 ^ 31 by omega)]
    show xW p l e ({ frames := 6, cells := 0, slots := 0, locals := 143 } : Room) s m args below meth c D xcl (x_A M nx) 3 (MQ below (x_Q D xcl (x_A M nx) (fun r n' M' => r = some (.int (nI (gRx γ tx).2.2.2.2.2.2.2.1)) ∧ n' = nx ∧ ∃ (w2 : Nat → Int64) (c2 q2 : Nat), gIs M' g (gRead γ (γ.2.2.1.1, w2, c2, 0, q2, nI 0, -1) (gRx γ tx).2) ∧ ∀ b, (b < g ∨ g + 45 < b) → M' b = M b)) args s 0 0 (x_A M nx)) 0 0 (nx) (x_up M329 (g + 4) (.inl (.object "GoodsTree$Tree", 3, .inr (.inr (.inr (.inr (va_up (fT) (γ.2.1) (some (g + 18 + 7 * γ.1 3))))))))) 63 [(2, .ref (g + 18 + 7 * γ.1 γ.2.1)), (1, .int (nI (1))), (0, .ref (g))] []
    refine x_aload_n F 2 dG_read_63 rfl rfl ?_
    refine x_aload_n F 0 dG_read_64 rfl rfl ?_
    refine x_put (ci := 5) (ty := .object "GoodsTree$Tree") F 5 (x_in inG) tG tG_ok nG rfl (by decide) (x_m kfG_42) dG_read_65 rfl (by decide +kernel) rfl rfl (x_up_k ((hf329 _ (by omega)).trans ((hf328 _ (by omega)).trans ((hf327 _ (by omega)).trans h0))) (by omega)) (Nat.le_of_ble_eq_true rfl) ?_
    show xW p l e ({ frames := 6, cells := 0, slots := 0, locals := 143 } : Room) s m args below meth c D xcl (x_A M nx) 3 (MQ below (x_Q D xcl (x_A M nx) (fun r n' M' => r = some (.int (nI (gRx γ tx).2.2.2.2.2.2.2.1)) ∧ n' = nx ∧ ∃ (w2 : Nat → Int64) (c2 q2 : Nat), gIs M' g (gRead γ (γ.2.2.1.1, w2, c2, 0, q2, nI 0, -1) (gRx γ tx).2) ∧ ∀ b, (b < g ∨ g + 45 < b) → M' b = M b)) args s 0 0 (x_A M nx)) 0 0 (nx) (x_up (x_up M329 (g + 4) (.inl (.object "GoodsTree$Tree", 3, .inr (.inr (.inr (.inr (va_up (fT) (γ.2.1) (some (g + 18 + 7 * γ.1 3))))))))) (g) (.inr (5, [.ref (g + 1), .ref (g + 4), .ref (g + 5), .ref (g + 10), .ref (g + 15), .ref (g + 18 + 7 * γ.1 γ.2.1), .int (nI (γ.2.1))]))) 68 [(2, .ref (g + 18 + 7 * γ.1 γ.2.1)), (1, .int (nI (1))), (0, .ref (g))] []
    refine x_aload_n F 2 dG_read_68 rfl rfl ?_
    refine x_get (ci := 5) F 2 (x_in inG) rfl (by decide) (x_m kfG_27) dG_read_69 x_up_s rfl ?_
    refine x_aload_n F 2 dG_read_72 rfl rfl ?_
    refine x_get (ci := 5) F 6 (x_in inG) rfl (by decide) (x_m kfG_46) dG_read_73 x_up_s rfl ?_
    refine yVr (n := 1) (As := [.int (nI (γ.2.1))]) (ci := 2) F kmG_69 kiP_dropFrom ksP_dropFrom knP kcP_dropFrom (by decide +kernel) dG_read_76 (cP_dropFrom l (nx) (x_up (x_up M329 (g + 4) (.inl (.object "GoodsTree$Tree", 3, .inr (.inr (.inr (.inr (va_up (fT) (γ.2.1) (some (g + 18 + 7 * γ.1 3))))))))) (g) (.inr (5, [.ref (g + 1), .ref (g + 4), .ref (g + 5), .ref (g + 10), .ref (g + 15), .ref (g + 18 + 7 * γ.1 γ.2.1), .int (nI (γ.2.1))]))) (g + 5) 20 (γ.2.2.2.2.1) (pAt_fr (pAt_fr (pAt_fr (pAt_fr (pAt_fr hNo (fun b _ _ => hf327 b (by omega))) (fun b _ _ => hf328 b (by omega))) (fun b _ _ => hf329 b (by omega))) (fun b _ _ => x_up_n (by omega))) (fun b _ _ => x_up_n (by omega))) (nI (γ.2.1))) rfl (x_up_k (x_up_k ((hf329 _ (by omega)).trans ((hf328 _ (by omega)).trans ((hf327 _ (by omega)).trans hNo.1))) (by omega)) (by omega)) rfl rfl (Nat.le_of_ble_eq_true rfl) ⟨Nat.le_of_ble_eq_true rfl, Nat.le_of_ble_eq_true rfl⟩ ⟨Nat.le_of_ble_eq_true rfl, Nat.le_of_ble_eq_true rfl⟩ (fun r' n' M330 hp => ?_)
    obtain ⟨hr', hn', hP330, hf330⟩ := hp
    rw [hn', hr']
    show xW p l e ({ frames := 6, cells := 0, slots := 0, locals := 143 } : Room) s m args below meth c D xcl (x_A M nx) 3 (MQ below (x_Q D xcl (x_A M nx) (fun r n' M' => r = some (.int (nI (gRx γ tx).2.2.2.2.2.2.2.1)) ∧ n' = nx ∧ ∃ (w2 : Nat → Int64) (c2 q2 : Nat), gIs M' g (gRead γ (γ.2.2.1.1, w2, c2, 0, q2, nI 0, -1) (gRx γ tx).2) ∧ ∀ b, (b < g ∨ g + 45 < b) → M' b = M b)) args s 0 0 (x_A M nx)) 0 0 (nx) M330 79 [(2, .ref (g + 18 + 7 * γ.1 γ.2.1)), (1, .int (nI (1))), (0, .ref (g))] []
    refine x_aload_n F 2 dG_read_79 rfl rfl ?_
    refine x_get (ci := 5) F 3 (x_in inG) rfl (by decide) (x_m kfG_31) dG_read_80 ((hf330 _ (by omega)).trans x_up_s) rfl ?_
    refine x_aload_n F 2 dG_read_83 rfl rfl ?_
    refine x_get (ci := 5) F 6 (x_in inG) rfl (by decide) (x_m kfG_46) dG_read_84 ((hf330 _ (by omega)).trans x_up_s) rfl ?_
    refine yVr (n := 1) (As := [.int (nI (γ.2.1))]) (ci := 2) F kmG_69 kiP_dropFrom ksP_dropFrom knP kcP_dropFrom (by decide +kernel) dG_read_87 (cP_dropFrom l (nx) M330 (g + 10) 60 (γ.2.2.2.2.2.1) (pAt_fr (pAt_fr (pAt_fr (pAt_fr (pAt_fr (pAt_fr hLi (fun b _ _ => hf327 b (by omega))) (fun b _ _ => hf328 b (by omega))) (fun b _ _ => hf329 b (by omega))) (fun b _ _ => x_up_n (by omega))) (fun b _ _ => x_up_n (by omega))) (fun b _ _ => hf330 b (by omega))) (nI (γ.2.1))) rfl ((hf330 _ (by omega)).trans (x_up_k (x_up_k ((hf329 _ (by omega)).trans ((hf328 _ (by omega)).trans ((hf327 _ (by omega)).trans hLi.1))) (by omega)) (by omega))) rfl rfl (Nat.le_of_ble_eq_true rfl) ⟨Nat.le_of_ble_eq_true rfl, Nat.le_of_ble_eq_true rfl⟩ ⟨Nat.le_of_ble_eq_true rfl, Nat.le_of_ble_eq_true rfl⟩ (fun r' n' M331 hp => ?_)
    obtain ⟨hr', hn', hP331, hf331⟩ := hp
    rw [hn', hr']
    show xW p l e ({ frames := 6, cells := 0, slots := 0, locals := 143 } : Room) s m args below meth c D xcl (x_A M nx) 3 (MQ below (x_Q D xcl (x_A M nx) (fun r n' M' => r = some (.int (nI (gRx γ tx).2.2.2.2.2.2.2.1)) ∧ n' = nx ∧ ∃ (w2 : Nat → Int64) (c2 q2 : Nat), gIs M' g (gRead γ (γ.2.2.1.1, w2, c2, 0, q2, nI 0, -1) (gRx γ tx).2) ∧ ∀ b, (b < g ∨ g + 45 < b) → M' b = M b)) args s 0 0 (x_A M nx)) 0 0 (nx) M331 90 [(2, .ref (g + 18 + 7 * γ.1 γ.2.1)), (1, .int (nI (1))), (0, .ref (g))] []
    refine x_aload_n F 2 dG_read_90 rfl rfl ?_
    refine x_get (ci := 5) F 3 (x_in inG) rfl (by decide) (x_m kfG_31) dG_read_91 ((hf331 _ (by omega)).trans ((hf330 _ (by omega)).trans x_up_s)) rfl ?_
    refine x_aload_n F 2 dG_read_94 rfl rfl ?_
    refine x_get (ci := 5) F 6 (x_in inG) rfl (by decide) (x_m kfG_46) dG_read_95 ((hf331 _ (by omega)).trans ((hf330 _ (by omega)).trans x_up_s)) rfl ?_
    refine yVr (n := 1) (As := [.int (nI (γ.2.1))]) (ci := 2) F kmG_72 kiP_dropMarked ksP_dropMarked knP kcP_dropMarked (by decide +kernel) dG_read_98 (cP_dropMarked l (nx) M331 (g + 10) 60 (dpa (fun (s : pS) (j : Nat) => decide (s.1 j = (nI (γ.2.1)))) (γ.2.2.2.2.2.1).2.2.2.2 (γ.2.2.2.2.2.1)) hP331 (nI (γ.2.1))) rfl hP331.1 rfl rfl (Nat.le_of_ble_eq_true rfl) ⟨Nat.le_of_ble_eq_true rfl, Nat.le_of_ble_eq_true rfl⟩ ⟨Nat.le_of_ble_eq_true rfl, Nat.le_of_ble_eq_true rfl⟩ (fun r' n' M332 hp => ?_)
    obtain ⟨hr', hn', hP332, hf332⟩ := hp
    rw [hn', hr']
    show xW p l e ({ frames := 6, cells := 0, slots := 0, locals := 143 } : Room) s m args below meth c D xcl (x_A M nx) 3 (MQ below (x_Q D xcl (x_A M nx) (fun r n' M' => r = some (.int (nI (gRx γ tx).2.2.2.2.2.2.2.1)) ∧ n' = nx ∧ ∃ (w2 : Nat → Int64) (c2 q2 : Nat), gIs M' g (gRead γ (γ.2.2.1.1, w2, c2, 0, q2, nI 0, -1) (gRx γ tx).2) ∧ ∀ b, (b < g ∨ g + 45 < b) → M' b = M b)) args s 0 0 (x_A M nx)) 0 0 (nx) M332 101 [(2, .ref (g + 18 + 7 * γ.1 γ.2.1)), (1, .int (nI (1))), (0, .ref (g))] []
    refine x_aload_n F 2 dG_read_101 rfl rfl ?_
    refine x_get (ci := 5) F 1 (x_in inG) rfl (by decide) (x_m kfG_18) dG_read_102 ((hf332 _ (by omega)).trans ((hf331 _ (by omega)).trans ((hf330 _ (by omega)).trans x_up_s))) rfl ?_
    refine x_aload_n F 2 dG_read_105 rfl rfl ?_
    refine x_get (ci := 5) F 6 (x_in inG) rfl (by decide) (x_m kfG_46) dG_read_106 ((hf332 _ (by omega)).trans ((hf331 _ (by omega)).trans ((hf330 _ (by omega)).trans x_up_s))) rfl ?_
    refine x_aald F dG_read_109 ((hf332 _ (by omega)).trans ((hf331 _ (by omega)).trans ((hf330 _ (by omega)).trans (x_up_k x_up_s (by omega))))) (pk_in (γ.2.1) (3) (by omega)) ?_
    rw [nI_clamp (show γ.2.1 < 2 ^ 31 by omega), (va_up_self fT γ.2.1 (some (g + 18 + 7 * γ.1 3)))]
    show xW p l e ({ frames := 6, cells := 0, slots := 0, locals := 143 } : Room) s m args below meth c D xcl (x_A M nx) 3 (MQ below (x_Q D xcl (x_A M nx) (fun r n' M' => r = some (.int (nI (gRx γ tx).2.2.2.2.2.2.2.1)) ∧ n' = nx ∧ ∃ (w2 : Nat → Int64) (c2 q2 : Nat), gIs M' g (gRead γ (γ.2.2.1.1, w2, c2, 0, q2, nI 0, -1) (gRx γ tx).2) ∧ ∀ b, (b < g ∨ g + 45 < b) → M' b = M b)) args s 0 0 (x_A M nx)) 0 0 (nx) M332 110 [(2, .ref (g + 18 + 7 * γ.1 γ.2.1)), (1, .int (nI (1))), (0, .ref (g))] [.ref (g + 18 + 7 * γ.1 3)]
    refine yV (n := 0) (As := []) (ci := 4) F kmG_75 kiT_size ksT_size knT kcT_size (by decide +kernel) dG_read_110 (cT_size l (nx) M332 (g + 18 + 7 * γ.1 3) ((gRx γ tx).2).1 ((gRx γ tx).2).2.1 ((gRx γ tx).2).2.2.1 ((gRx γ tx).2).2.2.2.1 ((gRx γ tx).2).2.2.2.2.1 ((gRx γ tx).2).2.2.2.2.2.1 ((gRx γ tx).2).2.2.2.2.2.2.1 ((gRx γ tx).2).2.2.2.2.2.2.2 (tAt_fr (tAt_fr (tAt_fr (tAt_fr (tAt_fr (tAt_fr hT328 (fun b _ _ => hf329 b (by omega))) (fun b _ _ => x_up_n (by omega))) (fun b _ _ => x_up_n (by omega))) (fun b _ _ => hf330 b (by omega))) (fun b _ _ => hf331 b (by omega))) (fun b _ _ => hf332 b (by omega))) ) rfl ((hf332 _ (by omega)).trans ((hf331 _ (by omega)).trans ((hf330 _ (by omega)).trans (x_up_k (x_up_k ((hf329 _ (by omega)).trans hT328.1) (by omega)) (by omega))))) rfl rfl (Nat.le_of_ble_eq_true rfl) ⟨Nat.le_of_ble_eq_true rfl, Nat.le_of_ble_eq_true rfl⟩ ⟨Nat.le_of_ble_eq_true rfl, Nat.le_of_ble_eq_true rfl⟩ ?_
    exact x_iret F hr dG_read_113 (⟨rfl, rfl, w2, c2, q2, ⟨⟨_, (show _ = (some (.inr (5, [.ref (g + 1), .ref (g + 4), .ref (g + 5), .ref (g + 10), .ref (g + 15), .ref (g + 18 + 7 * swπ γ.1 γ.2.1 3), .int (nI γ.2.1)])) : Option xE) from by rw [sw_3 γ.1 hpr]; exact ((hf332 _ (by omega)).trans ((hf331 _ (by omega)).trans ((hf330 _ (by omega)).trans x_up_s)))), ((hf332 _ (by omega)).trans ((hf331 _ (by omega)).trans ((hf330 _ (by omega)).trans (x_up_k x_up_s (by omega))))), sw_f hfT, hpr, sw_lt hpr hπ, sw_inj hpr hπi⟩, (rAt_fr (rAt_fr (rAt_fr (rAt_fr (rAt_fr hR329 (fun b _ _ => x_up_n (by omega))) (fun b _ _ => x_up_n (by omega))) (fun b _ _ => hf330 b (by omega))) (fun b _ _ => hf331 b (by omega))) (fun b _ _ => hf332 b (by omega))), sw_tr (π := γ.1) (T := γ.2.2.2.1) hpr (tAt_fr (tAt_fr (tAt_fr (tAt_fr (tAt_fr (tAt_fr hT328 (fun b _ _ => hf329 b (by omega))) (fun b _ _ => x_up_n (by omega))) (fun b _ _ => x_up_n (by omega))) (fun b _ _ => hf330 b (by omega))) (fun b _ _ => hf331 b (by omega))) (fun b _ _ => hf332 b (by omega))) hTr hπi (fun b hb hb2 =>  (hf332 _ (by omega)).trans ((hf331 _ (by omega)).trans ((hf330 _ (by omega)).trans ((x_up_n (by omega)).trans ((x_up_n (by omega)).trans ((hf329 _ (by omega)).trans ((hf328 _ (by omega)).trans ((hf327 _ (by omega)).trans (rfl))))))))), (pAt_fr (pAt_fr hP330 (fun b _ _ => hf331 b (by omega))) (fun b _ _ => hf332 b (by omega))), hP332, (fAt_fr (fAt_fr (fAt_fr (fAt_fr (fAt_fr (fAt_fr (fAt_fr (fAt_fr hFi (fun b _ _ => hf327 b (by omega))) (fun b _ _ => hf328 b (by omega))) (fun b _ _ => hf329 b (by omega))) (fun b _ _ => x_up_n (by omega))) (fun b _ _ => x_up_n (by omega))) (fun b _ _ => hf330 b (by omega))) (fun b _ _ => hf331 b (by omega))) (fun b _ _ => hf332 b (by omega)))⟩, fun b hb => (hf332 _ (by omega)).trans ((hf331 _ (by omega)).trans ((hf330 _ (by omega)).trans ((x_up_n (by omega)).trans ((x_up_n (by omega)).trans ((hf329 _ (by omega)).trans ((hf328 _ (by omega)).trans ((hf327 _ (by omega)).trans (rfl))))))))⟩)
  · skip
    have c1 : 1 = 0 := by
      exact (nI_eq (a := 1) (b := 0) (by omega) (by omega)).mp c1
    exact absurd c1 (by decide)
set_option maxHeartbeats 4000000 in
set_option maxRecDepth 100000 in
theorem cG_readT (l : Launch) (hfl : x_fl l) (nx : Nat) (M : xH) (g : Nat) (γ : gS) (hG : gIs M g γ) (tx : Nat → Nat) (hX : sAt (γ.2.2.1).1 tx (γ.2.2.1).2.2.2.1) (fa : Nat × Nat) (hN : (gRx γ tx).1 = some fa) : xT_ l xcl yG_read (xw (Cond.code yG_read bG_read 3 (some .int))) ({ frames := 6, cells := 1, slots := 6, locals := 143 } : Room) [.ref (g)] nx M "java/lang/IllegalStateException" (fun n' M' => nx ≤ n' ∧ ∃ (w2 : Nat → Int64) (c2 q2 : Nat) (τ2 : tS), gIs M' g (gSpare γ (γ.2.2.1.1, w2, c2, 0, q2, nI fa.1, nI fa.2) τ2) ∧ ∀ b, (b < g ∨ g + 45 < b) → M' b = M b) := by
  obtain ⟨⟨fT, h0, h4, hfT, hpr, hπ, hπi⟩, hRd, hTr, hNo, hLi, hFi⟩ := id hG
  have hpp := hπ γ.2.1 (by omega)
  have h33 := hπ 3 (by omega)
  refine yCT (by decide) (Nat.le_of_ble_eq_true rfl) ?_
  intro p e s m args below meth c D F hr hex
  refine x_aload_n F 0 dG_read_0 rfl rfl ?_
  refine x_get (ci := 5) F 5 (x_in inG) rfl (by decide) (x_m kfG_42) dG_read_1 h0 rfl ?_
  refine yVr (n := 0) (As := []) (ci := 4) F kmG_54 kiT_clear ksT_clear knT kcT_clear (by decide +kernel) dG_read_4 (cT_clear l (nx) M (g + 18 + 7 * γ.1 3) (γ.2.2.2.1 3).1 (γ.2.2.2.1 3).2.1 (γ.2.2.2.1 3).2.2.1 (γ.2.2.2.1 3).2.2.2.1 (γ.2.2.2.1 3).2.2.2.2.1 (γ.2.2.2.1 3).2.2.2.2.2.1 (γ.2.2.2.1 3).2.2.2.2.2.2.1 (γ.2.2.2.1 3).2.2.2.2.2.2.2 (hTr 3 (by omega))) rfl (hTr 3 (by omega)).1 rfl rfl (Nat.le_of_ble_eq_true rfl) ⟨Nat.le_of_ble_eq_true rfl, Nat.le_of_ble_eq_true rfl⟩ ⟨Nat.le_of_ble_eq_true rfl, Nat.le_of_ble_eq_true rfl⟩ (fun r' n' M336 hp => ?_)
  obtain ⟨hr', hn', hT336, hf336⟩ := hp
  rw [hn', hr']
  show xW p l e ({ frames := 6, cells := 1, slots := 6, locals := 143 } : Room) s m args below meth c D xcl (x_A M nx) 3 (x_MQT below D xcl (x_A M nx) "java/lang/IllegalStateException" (fun n' M' => nx ≤ n' ∧ ∃ (w2 : Nat → Int64) (c2 q2 : Nat) (τ2 : tS), gIs M' g (gSpare γ (γ.2.2.1.1, w2, c2, 0, q2, nI fa.1, nI fa.2) τ2) ∧ ∀ b, (b < g ∨ g + 45 < b) → M' b = M b) s 1 6) 0 0 (nx) M336 7 [(0, .ref (g))] []
  refine x_aload_n F 0 dG_read_7 rfl rfl ?_
  refine x_get (ci := 5) F 0 (x_in inG) rfl (by decide) (x_m kfG_10) dG_read_8 ((hf336 _ (by omega)).trans h0) rfl ?_
  refine x_aload_n F 0 dG_read_11 rfl rfl ?_
  refine x_get (ci := 5) F 5 (x_in inG) rfl (by decide) (x_m kfG_42) dG_read_12 ((hf336 _ (by omega)).trans h0) rfl ?_
  refine yVr (n := 1) (As := [.ref (g + 18 + 7 * γ.1 3)]) (ci := 3) F kmG_57 kiR_readRows ksR_readRows knR kcR_readRows (by decide +kernel) dG_read_15 (xC.weak (post' := fun o n' M' => n' = nx ∧ (∀ b, (b < g + 1 ∨ g + 1 + 2 < b) ∧ (b < g + 18 + 7 * γ.1 3 ∨ g + 18 + 7 * γ.1 3 + 6 < b) → M' b = M336 b) ∧ o = some (.int (nI 0)) ∧ (∃ τ : tS, tIs M' (g + 18 + 7 * γ.1 3) τ) ∧ ∃ (w2 : Nat → Int64) (c2 q2 : Nat), rAt M' (g + 1) (γ.2.2.1).1 w2 c2 (γ.2.2.1).2.2.2.1 q2 (nI fa.1) (nI fa.2)) (cR_readRows l (nx) M336 (g + 1) (γ.2.2.1).1 (γ.2.2.1).2.1 (γ.2.2.1).2.2.1 (γ.2.2.1).2.2.2.1 (γ.2.2.1).2.2.2.2.1 (γ.2.2.1).2.2.2.2.2.1 (γ.2.2.1).2.2.2.2.2.2 (rAt_fr hRd (fun b _ _ => hf336 b (by omega))) tx hX (g + 18 + 7 * γ.1 3) (tClr (γ.2.2.2.1 3)) hT336 (Nat.le_refl _) (by omega)) (fun o n' M' hp => by obtain ⟨p1, p2, p3⟩ := hp; rw [show (rdx tx (γ.2.2.1).2.2.2.1 (γ.2.2.1).2.1 (tClr (γ.2.2.2.1 3))).1 = some fa from hN] at p3; exact ⟨p1, p2, p3⟩)) rfl ((hf336 _ (by omega)).trans hRd.1) rfl rfl (Nat.le_of_ble_eq_true rfl) ⟨Nat.le_of_ble_eq_true rfl, Nat.le_of_ble_eq_true rfl⟩ ⟨Nat.le_of_ble_eq_true rfl, Nat.le_of_ble_eq_true rfl⟩ (fun r' n' M337 hp => ?_)
  obtain ⟨hn', hf337, hr', ⟨τ2, hT337⟩, w2, c2, q2, hR337⟩ := hp
  rw [hn', hr']
  show xW p l e ({ frames := 6, cells := 1, slots := 6, locals := 143 } : Room) s m args below meth c D xcl (x_A M nx) 3 (x_MQT below D xcl (x_A M nx) "java/lang/IllegalStateException" (fun n' M' => nx ≤ n' ∧ ∃ (w2 : Nat → Int64) (c2 q2 : Nat) (τ2 : tS), gIs M' g (gSpare γ (γ.2.2.1.1, w2, c2, 0, q2, nI fa.1, nI fa.2) τ2) ∧ ∀ b, (b < g ∨ g + 45 < b) → M' b = M b) s 1 6) 0 0 (nx) M337 18 [(0, .ref (g))] [.int (nI (0))]
  refine x_istore_n F [(1, .int (nI (0))), (0, .ref (g))] dG_read_18 rfl (by decide) rfl ?_
  refine x_aload_n F 1 dG_read_19 rfl rfl ?_
  refine x_get (ci := 5) F 0 (x_in inG) rfl (by decide) (x_m kfG_10) dG_read_20 ((hf337 _ (by omega)).trans ((hf336 _ (by omega)).trans h0)) rfl ?_
  refine yVr (n := 0) (As := []) (ci := 3) F kmG_61 kiR_clear ksR_clear knR kcR_clear (by decide +kernel) dG_read_23 (cR_clear l (nx) M337 (g + 1) (γ.2.2.1).1 w2 c2 (γ.2.2.1).2.2.2.1 q2 (nI fa.1) (nI fa.2) hR337 ) rfl hR337.1 rfl rfl (Nat.le_of_ble_eq_true rfl) ⟨Nat.le_of_ble_eq_true rfl, Nat.le_of_ble_eq_true rfl⟩ ⟨Nat.le_of_ble_eq_true rfl, Nat.le_of_ble_eq_true rfl⟩ (fun r' n' M338 hp => ?_)
  obtain ⟨hr', hn', hR338, hf338⟩ := hp
  rw [hn', hr']
  show xW p l e ({ frames := 6, cells := 1, slots := 6, locals := 143 } : Room) s m args below meth c D xcl (x_A M nx) 3 (x_MQT below D xcl (x_A M nx) "java/lang/IllegalStateException" (fun n' M' => nx ≤ n' ∧ ∃ (w2 : Nat → Int64) (c2 q2 : Nat) (τ2 : tS), gIs M' g (gSpare γ (γ.2.2.1.1, w2, c2, 0, q2, nI fa.1, nI fa.2) τ2) ∧ ∀ b, (b < g ∨ g + 45 < b) → M' b = M b) s 1 6) 0 0 (nx) M338 26 [(1, .int (nI (0))), (0, .ref (g))] []
  refine x_iload_n F 0 dG_read_26 rfl rfl ?_
  refine x_if_ne F (tgt := 40) dG_read_27 (by decide) (fun c1 => ?_) (fun c1 => ?_)
  · skip
    have c1 : 0 ≠ 0 := by
      have z : ¬ (0 = 0) := fun zz => c1 ((nI_eq (a := 0) (b := 0) (by omega) (by omega)).mpr zz)
      omega
    exact absurd c1 (by decide)
  · skip
    have c1 : 0 = 0 := by
      exact (nI_eq (a := 0) (b := 0) (by omega) (by omega)).mp c1
    exact yT (tx := "the text is no nomenclature") F hfl hex x_ok1 klG_62 kqJS knJS kcG_read (by decide) (by decide) dG_read_30 dG_read_33 dG_read_34 dG_read_36 dG_read_39 (Nat.le_of_ble_eq_true rfl) (Nat.le_of_ble_eq_true rfl) (Nat.le_of_ble_eq_true rfl) (Nat.le_of_ble_eq_true rfl) (Nat.le_of_ble_eq_true rfl) (Nat.le_of_ble_eq_true rfl) (fun n' hn' => ⟨hn', w2, c2, q2, τ2, ⟨⟨fT, ((hf338 _ (by omega)).trans ((hf337 _ (by omega)).trans ((hf336 _ (by omega)).trans h0))), ((hf338 _ (by omega)).trans ((hf337 _ (by omega)).trans ((hf336 _ (by omega)).trans h4))), hfT, hpr, hπ, hπi⟩, hR338, sp_tr (π := γ.1) (T := γ.2.2.2.1) (tAt_fr hT337 (fun b _ _ => hf338 b (by omega))) hTr hπi (fun b hb hb2 =>  (hf338 _ (by omega)).trans ((hf337 _ (by omega)).trans ((hf336 _ (by omega)).trans (rfl)))), (pAt_fr (pAt_fr (pAt_fr hNo (fun b _ _ => hf336 b (by omega))) (fun b _ _ => hf337 b (by omega))) (fun b _ _ => hf338 b (by omega))), (pAt_fr (pAt_fr (pAt_fr hLi (fun b _ _ => hf336 b (by omega))) (fun b _ _ => hf337 b (by omega))) (fun b _ _ => hf338 b (by omega))), (fAt_fr (fAt_fr (fAt_fr hFi (fun b _ _ => hf336 b (by omega))) (fun b _ _ => hf337 b (by omega))) (fun b _ _ => hf338 b (by omega)))⟩, fun b hb => (hf338 _ (by omega)).trans ((hf337 _ (by omega)).trans ((hf336 _ (by omega)).trans (rfl)))⟩)
