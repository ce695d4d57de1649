/-! pairs as lists -/
def tl {α : Type} (F : Nat → α) (n : Nat) : List α := (List.range n).map F
theorem tl_len {α : Type} (F : Nat → α) (n : Nat) : (tl F n).length = n := by
  unfold tl; rw [List.length_map, List.length_range]
theorem tl_get {α : Type} {F : Nat → α} {n i : Nat} (h : i < (tl F n).length) : (tl F n)[i] = F i := by
  simp [tl]
theorem tl_s {α : Type} (F : Nat → α) (n : Nat) : tl F (n + 1) = tl F n ++ [F n] := by
  unfold tl; rw [List.range_succ, List.map_append]; rfl
theorem tl_ext {α : Type} {F G : Nat → α} {n : Nat} (h : ∀ i, i < n → F i = G i) : tl F n = tl G n := by
  unfold tl
  exact List.map_congr_left (fun i hi => h i (List.mem_range.mp hi))
theorem tl_inj {α : Type} {F G : Nat → α} {n m : Nat} (h : tl F n = tl G m) : n = m ∧ ∀ i, i < n → F i = G i := by
  have hl : n = m := by rw [← tl_len F n, ← tl_len G m, h]
  subst hl
  refine ⟨rfl, fun i hi => ?_⟩
  have h1 : (tl F n)[i]? = (tl G n)[i]? := by rw [h]
  rw [List.getElem?_eq_getElem (by rw [tl_len]; exact hi), List.getElem?_eq_getElem (by rw [tl_len]; exact hi), tl_get, tl_get] at h1
  injection h1
theorem tl_sh {α : Type} {F : Nat → α} {g n : Nat} (h : g < n) : tl (sh F g (n - 1)) (n - 1) = (tl F n).eraseIdx g := by
  apply List.ext_getElem
  · rw [tl_len, List.length_eraseIdx, tl_len, if_pos h]
  · intro i h1 h2
    rw [tl_len] at h1
    rw [tl_get, List.getElem_eraseIdx]
    unfold sh
    by_cases hi : i < g
    · rw [if_neg (by omega), dif_pos hi, tl_get]
    · rw [if_pos (by omega), dif_neg hi, tl_get]
abbrev p4 : Type := Int32 × Int64 × Int32 × Int64
def pF (σ : pS) : Nat → p4 := fun i => (σ.1 i, σ.2.1 i, σ.2.2.1 i, σ.2.2.2.1 i)
def pL (σ : pS) : List p4 := tl (pF σ) σ.2.2.2.2
theorem pL_dp {σ : pS} {g : Nat} (h : g < σ.2.2.2.2) : pL (dp σ g) = (pL σ).eraseIdx g := by
  unfold pL
  rw [← tl_sh h]
  show tl (pF (dp σ g)) (σ.2.2.2.2 - 1) = _
  refine tl_ext (fun i hi => ?_)
  unfold pF dp sh
  dsimp only
  split <;> rfl
theorem dpa_f {P : pS → Nat → Bool} {p : p4 → Bool} (hP : ∀ s j, P s j = p (pF s j)) {k : Nat} {σ : pS} (hk : k ≤ σ.2.2.2.2) : pL (dpa P k σ) = ((pL σ).take k).filter (fun x => ! p x) ++ (pL σ).drop k := by
  induction k generalizing σ with
  | zero => rfl
  | succ k ih =>
    have hl : k < (pL σ).length := by unfold pL; rw [tl_len]; omega
    have hg : (pL σ)[k] = pF σ k := tl_get hl
    rw [dpa_s, hP]
    rw [List.take_succ_eq_append_getElem hl, List.filter_append, hg]
    by_cases h : p (pF σ k) = true
    · rw [if_pos h, ih (by show k ≤ σ.2.2.2.2 - 1; omega), pL_dp (by omega)]
      have hz : ((pL σ).take k).length = k := by rw [List.length_take]; omega
      rw [List.eraseIdx_eq_take_drop_succ, List.take_left' hz, List.drop_left' hz]
      simp [h]
    · rw [if_neg h, ih (by omega), List.drop_eq_getElem_cons hl, hg]
      simp [h]
theorem pL_from {σ : pS} {e : Int32} : pL (pFrom e σ) = (pL σ).filter (fun x => ! decide (x.1 = e)) := by
  unfold pFrom
  rw [dpa_f (P := fun (s : pS) (j : Nat) => decide (s.1 j = e)) (p := fun x => decide (x.1 = e)) (fun s j => rfl) (Nat.le_refl _)]
  have hl : (pL σ).length = σ.2.2.2.2 := tl_len _ _
  rw [← hl, List.take_length, List.drop_length, List.append_nil]
theorem pL_mark {σ : pS} {e : Int32} : pL (pMark e σ) = (pL σ).filter (fun x => ! decide (x.2.2.1 = e)) := by
  unfold pMark
  rw [dpa_f (P := fun (s : pS) (j : Nat) => decide (s.2.2.1 j = e)) (p := fun x => decide (x.2.2.1 = e)) (fun s j => rfl) (Nat.le_refl _)]
  have hl : (pL σ).length = σ.2.2.2.2 := tl_len _ _
  rw [← hl, List.take_length, List.drop_length, List.append_nil]
/-- what is copied to the front is what is kept -/
theorem cp_f {P : Nat → Bool} {f1 : Nat → Int32} {f2 : Nat → Int64} {f3 : Nat → Int32} {f4 : Nat → Int64} {k i n : Nat} {g1 : Nat → Int32} {g2 : Nat → Int64} {g3 : Nat → Int32} {g4 : Nat → Int64} : pL (cpI P f1 k i n g1, cpL P f2 k i n g2, cpI P f3 k i n g3, cpL P f4 k i n g4, ct P k i n) = pL (g1, g2, g3, g4, n) ++ ((List.range' i k).filter P).map (pF (f1, f2, f3, f4, 0)) := by
  induction k generalizing i n g1 g2 g3 g4 with
  | zero => exact (List.append_nil _).symm
  | succ k ih =>
    rw [cpI_s, cpL_s, cpI_s, cpL_s, ct_s, List.range'_succ]
    by_cases h : P i = true
    · simp only [if_pos h]
      rw [ih, List.filter_cons_of_pos h, List.map_cons]
      have e : pL (upd g1 n (f1 i), vp_updL g2 n (f2 i), upd g3 n (f3 i), vp_updL g4 n (f4 i), n + 1) = pL (g1, g2, g3, g4, n) ++ [pF (f1, f2, f3, f4, 0) i] := by
        unfold pL
        show tl _ (n + 1) = tl _ n ++ _
        rw [tl_s]
        congr 1
        · exact tl_ext (fun j hj => by
            unfold pF
            dsimp only
            rw [upd_ne (by omega), updL_ne (by omega), upd_ne (by omega), updL_ne (by omega)])
        · unfold pF
          dsimp only
          rw [upd_s, vp_us, upd_s, vp_us]
      rw [e, List.append_assoc]; rfl
    · simp only [if_neg h]
      rw [ih, List.filter_cons_of_neg h]
theorem cp_0 {P : Nat → Bool} {p : p4 → Bool} {f1 : Nat → Int32} {f2 : Nat → Int64} {f3 : Nat → Int32} {f4 : Nat → Int64} {k : Nat} (hp : ∀ j, P j = p (pF (f1, f2, f3, f4, 0) j)) : pL (cpI P f1 k 0 0 f1, cpL P f2 k 0 0 f2, cpI P f3 k 0 0 f3, cpL P f4 k 0 0 f4, ct P k 0 0) = (pL (f1, f2, f3, f4, k)).filter p := by
  rw [cp_f]
  show [] ++ _ = _
  rw [List.nil_append]
  unfold pL tl
  rw [List.filter_map, List.range_eq_range']
  show _ = List.map (pF (f1, f2, f3, f4, 0)) (List.filter (p ∘ pF (f1, f2, f3, f4, 0)) _)
  rw [show p ∘ pF (f1, f2, f3, f4, 0) = P from funext (fun j => (hp j).symm)]
/-- the same pairs -/
def pE (σ : pS) (n : Nat) (nE : Nat → Int32) (nC : Nat → Int64) (nK : Nat → Int32) (nO : Nat → Int64) : Prop := pL σ = pL (nE, nC, nK, nO, n)
theorem pE_n {σ : pS} {n : Nat} {nE : Nat → Int32} {nC : Nat → Int64} {nK : Nat → Int32} {nO : Nat → Int64} (h : pE σ n nE nC nK nO) : σ.2.2.2.2 = n := (tl_inj h).1
theorem pE_i {σ : pS} {n : Nat} {nE : Nat → Int32} {nC : Nat → Int64} {nK : Nat → Int32} {nO : Nat → Int64} (h : pE σ n nE nC nK nO) {i : Nat} (hi : i < n) : σ.1 i = nE i ∧ σ.2.1 i = nC i ∧ σ.2.2.1 i = nK i ∧ σ.2.2.2.1 i = nO i := by
  have h1 := (tl_inj h).2 i (by rw [pE_n h]; exact hi)
  unfold pF at h1
  injection h1 with a b
  injection b with b c
  injection c with c d
  exact ⟨a, b, c, d⟩
theorem pE_of {σ : pS} {n : Nat} {nE : Nat → Int32} {nC : Nat → Int64} {nK : Nat → Int32} {nO : Nat → Int64} (hn : σ.2.2.2.2 = n) (h : ∀ i, i < n → σ.1 i = nE i ∧ σ.2.1 i = nC i ∧ σ.2.2.1 i = nK i ∧ σ.2.2.2.1 i = nO i) : pE σ n nE nC nK nO := by
  unfold pE pL
  rw [hn]
  exact tl_ext (fun i hi => by
    obtain ⟨a, b, c, d⟩ := h i hi
    show (_, _, _, _) = (_, _, _, _)
    rw [a, b, c, d])
theorem pE_add {σ : pS} {n : Nat} {nE : Nat → Int32} {nC : Nat → Int64} {nK : Nat → Int32} {nO : Nat → Int64} (h : pE σ n nE nC nK nO) (e : Int32) (c : Int64) (m : Int32) (o : Int64) : pE (padd σ e c m o) (n + 1) (upd nE n e) (vp_updL nC n c) (upd nK n m) (vp_updL nO n o) := by
  have hn := pE_n h
  refine pE_of (by show σ.2.2.2.2 + 1 = n + 1; omega) (fun i hi => ?_)
  show upd _ _ _ i = _ ∧ vp_updL _ _ _ i = _ ∧ upd _ _ _ i = _ ∧ vp_updL _ _ _ i = _
  rw [hn]
  by_cases hin : i = n
  · subst hin
    rw [upd_s, vp_us, upd_s, vp_us, upd_s, vp_us, upd_s, vp_us]
    exact ⟨rfl, rfl, rfl, rfl⟩
  · rw [upd_ne hin, updL_ne hin, upd_ne hin, updL_ne hin, upd_ne hin, updL_ne hin, upd_ne hin, updL_ne hin]
    exact pE_i h (by omega)
theorem pE_from {σ : pS} {n : Nat} {nE : Nat → Int32} {nC : Nat → Int64} {nK : Nat → Int32} {nO : Nat → Int64} (h : pE σ n nE nC nK nO) (e : Int32) : pE (pFrom e σ) (ct (fgN nE e) n 0 0) (cpI (fgN nE e) nE n 0 0 nE) (cpL (fgN nE e) nC n 0 0 nC) (cpI (fgN nE e) nK n 0 0 nK) (cpL (fgN nE e) nO n 0 0 nO) := by
  unfold pE
  rw [cp_0 (P := fgN nE e) (p := fun x => ! decide (x.1 = e)) (fun j => rfl), pL_from]
  rw [show pL σ = _ from h]
theorem pE_both {σ : pS} {n : Nat} {nE : Nat → Int32} {nC : Nat → Int64} {nK : Nat → Int32} {nO : Nat → Int64} (h : pE σ n nE nC nK nO) (e : Int32) : pE (pMark e (pFrom e σ)) (ct (fgL nE nK e) n 0 0) (cpI (fgL nE nK e) nE n 0 0 nE) (cpL (fgL nE nK e) nC n 0 0 nC) (cpI (fgL nE nK e) nK n 0 0 nK) (cpL (fgL nE nK e) nO n 0 0 nO) := by
  unfold pE
  rw [cp_0 (P := fgL nE nK e) (p := fun x => (! decide (x.1 = e)) && ! decide (x.2.2.1 = e)) (fun j => rfl), pL_mark, pL_from, List.filter_filter]
  rw [show pL σ = _ from h]
  congr 1
  funext x
  exact Bool.and_comm _ _
/-! what pairs are asked -/
theorem pMt_any {ed : Nat → Int32} {cd : Nat → Int64} {mk : Nat → Int32} {e : Int32} {co : Int64} {j : Nat} : pMt ed cd mk e co (-1) j = (decide (ed j = e) && decide (cd j = co)) := by
  unfold pMt
  rw [decide_eq_true (show (-1 : Int32) = -1 from rfl), Bool.true_or, Bool.and_true]
theorem pMt_lk {ed : Nat → Int32} {cd : Nat → Int64} {mk : Nat → Int32} {e : Int32} {co : Int64} {m : Int32} {j : Nat} (hm : m ≠ -1) : pMt ed cd mk e co m j = mLk ed cd mk e co m j := by
  unfold pMt mLk
  rw [decide_eq_false hm, Bool.false_or]
theorem mLk_ext {σ : pS} {n : Nat} {lF : Nat → Int32} {lC : Nat → Int64} {lT : Nat → Int32} {lO : Nat → Int64} (h : pE σ n lF lC lT lO) {a : Int32} {co : Int64} {b : Int32} (hb : b ≠ -1) {j : Nat} (hj : j < n) : pMt σ.1 σ.2.1 σ.2.2.1 a co b j = mLk lF lC lT a co b j := by
  obtain ⟨h1, h2, h3, h4⟩ := pE_i h hj
  rw [pMt_lk hb]
  unfold mLk
  rw [h1, h2, h3]
