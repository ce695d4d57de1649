/-! findings as lists -/
def fL (φ : fS) : List (Int64 × Int32) := tl (fun i => (φ.1 i, φ.2.1 i)) φ.2.2
def shU {α : Type} (F : Nat → α) (j k : Nat) : Nat → α := fun i => if j < i ∧ i ≤ k then F (i - 1) else F i
theorem shU_0 {α : Type} (F : Nat → α) (j : Nat) : shU F j j = F := by
  funext i; unfold shU; rw [if_neg (by omega)]
theorem shU_i (F : Nat → Int32) {j k : Nat} (h : j ≤ k) : shU (upd F (k + 1) (F k)) j k = shU F j (k + 1) := by
  funext i
  unfold shU
  by_cases h1 : i = k + 1
  · subst h1
    rw [if_neg (by omega), if_pos (by omega), upd_s]; rfl
  · by_cases h2 : j < i ∧ i ≤ k
    · rw [if_pos h2, if_pos (by omega), upd_ne (by omega)]
    · rw [if_neg h2, if_neg (by omega), upd_ne h1]
theorem shU_l (F : Nat → Int64) {j k : Nat} (h : j ≤ k) : shU (vp_updL F (k + 1) (F k)) j k = shU F j (k + 1) := by
  funext i
  unfold shU
  by_cases h1 : i = k + 1
  · subst h1
    rw [if_neg (by omega), if_pos (by omega), vp_us]; rfl
  · by_cases h2 : j < i ∧ i ≤ k
    · rw [if_pos h2, if_pos (by omega), updL_ne (by omega)]
    · rw [if_neg h2, if_neg (by omega), updL_ne h1]
theorem fsh_j {g : Int32} {j k : Nat} {cd : Nat → Int64} {pt : Nat → Int32} (hk : j ≤ k) (h1 : ∀ i, j ≤ i → i < k → pt i < g) (h2 : ∀ i, i < j → ¬ pt i < g) : fsh g k cd pt = (shU cd j k, shU pt j k, j) := by
  induction k generalizing cd pt with
  | zero =>
    rw [show j = 0 by omega, shU_0, shU_0]; rfl
  | succ k ih =>
    rw [fsh_s]
    by_cases hj : j = k + 1
    · subst hj
      rw [if_neg (h2 k (by omega)), shU_0, shU_0]
    · rw [if_pos (h1 k (by omega) (by omega)), ih (by omega) (fun i a b => by rw [upd_ne (by omega)]; exact h1 i a (by omega)) (fun i a => by rw [upd_ne (by omega)]; exact h2 i a), shU_i _ (by omega), shU_l _ (by omega)]
theorem fL_ins {φ : fS} {co : Int64} {g : Int32} {U V : List (Int64 × Int32)} (h : fL φ = U ++ V) (hU : ∀ u, u ∈ U → ¬ u.2 < g) (hV : ∀ u, u ∈ V → u.2 < g) : fL (fins φ co g) = U ++ (co, g) :: V := by
  have hl : φ.2.2 = U.length + V.length := by
    rw [← List.length_append, ← h]; exact (tl_len _ _).symm
  have hg : ∀ i (hi : i < (U ++ V).length), (U ++ V)[i] = (φ.1 i, φ.2.1 i) := by
    intro i hi
    have h1 : (fL φ)[i]? = (U ++ V)[i]? := by rw [h]
    rw [List.getElem?_eq_getElem hi, List.getElem?_eq_getElem (by rw [h]; exact hi)] at h1
    injection h1 with h1
    rw [← h1]
    exact tl_get _
  have hf := fsh_j (g := g) (j := U.length) (k := φ.2.2) (cd := φ.1) (pt := φ.2.1) (by omega) (fun i a b => by
      have hi : i < (U ++ V).length := by rw [List.length_append]; omega
      have h1 := hg i hi
      rw [List.getElem_append_right a] at h1
      have h2 := hV _ (List.getElem_mem (l := V) (n := i - U.length) (by omega))
      rw [h1] at h2
      exact h2) (fun i a => by
      have hi : i < (U ++ V).length := by rw [List.length_append]; omega
      have h1 := hg i hi
      rw [List.getElem_append_left a] at h1
      have h2 := hU _ (List.getElem_mem (l := U) (n := i) a)
      rw [h1] at h2
      exact h2)
  unfold fins
  rw [hf]
  show tl (fun i => (vp_updL (shU φ.1 U.length φ.2.2) U.length co i, upd (shU φ.2.1 U.length φ.2.2) U.length g i)) (φ.2.2 + 1) = _
  apply List.ext_getElem
  · rw [tl_len, List.length_append, List.length_cons]
    omega
  · intro i h1 h2
    rw [tl_get]
    rw [tl_len] at h1
    rcases Nat.lt_trichotomy i U.length with c | c | c
    · rw [updL_ne (by omega), upd_ne (by omega), List.getElem_append_left c]
      unfold shU
      rw [if_neg (by omega), if_neg (by omega), ← hg i (by rw [List.length_append]; omega), List.getElem_append_left c]
    · subst c
      rw [vp_us, upd_s, List.getElem_append_right (Nat.le_refl _)]
      simp
    · rw [updL_ne (by omega), upd_ne (by omega)]
      unfold shU
      rw [if_pos (by omega), if_pos (by omega), ← hg (i - 1) (by rw [List.length_append]; omega), List.getElem_append_right (by omega), List.getElem_append_right (by omega)]
      have : ∃ k, i - U.length = k + 1 := ⟨i - U.length - 1, by omega⟩
      obtain ⟨k, hk⟩ := this
      simp only [hk, List.getElem_cons_succ]
      congr 1
      omega
/-- those with p points; from p points down -/
def bk (g : Nat → Int64 × Int32) (f : Nat → Nat) (p n : Nat) : List (Int64 × Int32) := ((List.range n).filter (fun i => decide (f i = p))).map g
def bkA (g : Nat → Int64 × Int32) (f : Nat → Nat) : Nat → Nat → List (Int64 × Int32)
  | 0, _ => []
  | p + 1, n => bk g f (p + 1) n ++ bkA g f p n
theorem bk_s {g : Nat → Int64 × Int32} {f : Nat → Nat} {p n : Nat} : bk g f p (n + 1) = if f n = p then bk g f p n ++ [g n] else bk g f p n := by
  unfold bk
  rw [List.range_succ, List.filter_append, List.map_append]
  by_cases h : f n = p
  · rw [if_pos h]; simp [h]
  · rw [if_neg h]; simp [h]
theorem bkA_lt {g : Nat → Int64 × Int32} {f : Nat → Nat} {p n : Nat} (h : f n = 0 ∨ p < f n) : bkA g f p (n + 1) = bkA g f p n := by
  induction p with
  | zero => rfl
  | succ p ih =>
    show bk g f (p + 1) (n + 1) ++ bkA g f p (n + 1) = bk g f (p + 1) n ++ bkA g f p n
    rw [ih (by omega), bk_s, if_neg (by omega)]
theorem bk_m {g : Nat → Int64 × Int32} {f : Nat → Nat} {p n : Nat} (hg : ∀ i, (g i).2 = nI (f i)) {u : Int64 × Int32} (h : u ∈ bk g f p n) : u.2 = nI p := by
  unfold bk at h
  obtain ⟨i, hi, rfl⟩ := List.mem_map.mp h
  have := (List.mem_filter.mp hi).2
  rw [hg, of_decide_eq_true this]
theorem bkA_m {g : Nat → Int64 × Int32} {f : Nat → Nat} {p n v : Nat} (hg : ∀ i, (g i).2 = nI (f i)) (hp : p < v) (hv : v ≤ 24) {u : Int64 × Int32} (h : u ∈ bkA g f p n) : u.2 < nI v := by
  induction p with
  | zero => cases h
  | succ p ih =>
    have h : u ∈ bk g f (p + 1) n ++ bkA g f p n := h
    rcases List.mem_append.mp h with h | h
    · rw [bk_m hg h, nI_ltI (by omega) (by omega)]; exact hp
    · exact ih (by omega) h
theorem bkA_i {g : Nat → Int64 × Int32} {f : Nat → Nat} {p n : Nat} (hg : ∀ i, (g i).2 = nI (f i)) (h0 : 0 < f n) (hp : f n ≤ p) (h24 : p ≤ 24) : ∃ U V, bkA g f p n = U ++ V ∧ bkA g f p (n + 1) = U ++ g n :: V ∧ (∀ u, u ∈ U → ¬ u.2 < nI (f n)) ∧ ∀ u, u ∈ V → u.2 < nI (f n) := by
  induction p with
  | zero => omega
  | succ p ih =>
    by_cases hf : f n = p + 1
    · refine ⟨bk g f (p + 1) n, bkA g f p n, rfl, ?_, fun u hu => ?_, fun u hu => ?_⟩
      · show bk g f (p + 1) (n + 1) ++ bkA g f p (n + 1) = _
        rw [bk_s, if_pos hf, bkA_lt (by omega), List.append_assoc]; rfl
      · rw [bk_m hg hu, hf, nI_ltI (by omega) (by omega)]; omega
      · rw [hf]; exact bkA_m hg (by omega) (by omega) hu
    · obtain ⟨U, V, e1, e2, e3, e4⟩ := ih (by omega) (by omega)
      refine ⟨bk g f (p + 1) n ++ U, V, ?_, ?_, fun u hu => ?_, e4⟩
      · show bk g f (p + 1) n ++ bkA g f p n = _
        rw [e1, List.append_assoc]
      · show bk g f (p + 1) (n + 1) ++ bkA g f p (n + 1) = _
        rw [bk_s, if_neg hf, e2, List.append_assoc]
      · rcases List.mem_append.mp hu with hu | hu
        · rw [bk_m hg hu, nI_ltI (by omega) (by omega)]; omega
        · exact e3 u hu
/-- the class's findings: one row after the other, put where it belongs -/
theorem srF_L {f : Nat → Nat} {cd : Nat → Int64} (h24 : ∀ i, f i ≤ 24) {k i : Nat} {φ : fS} (h : fL φ = bkA (fun i => (cd i, nI (f i))) f 24 i) : fL (srF f cd k i φ) = bkA (fun i => (cd i, nI (f i))) f 24 (i + k) := by
  induction k generalizing i φ with
  | zero => exact h
  | succ k ih =>
    rw [srF_s, show i + (k + 1) = i + 1 + k by omega]
    refine ih ?_
    unfold fadd
    by_cases h0 : f i = 0
    · rw [if_pos (by rw [h0]; decide), bkA_lt (Or.inl h0)]; exact h
    · have := h24 i
      rw [if_neg (fun z => h0 (by have := (nI_leI (a := f i) (b := 0) (by omega) (by omega)).mp z; omega))]
      obtain ⟨U, V, e1, e2, e3, e4⟩ := bkA_i (g := fun i => (cd i, nI (f i))) (f := f) (p := 24) (n := i) (fun _ => rfl) (by omega) (h24 i) (Nat.le_refl _)
      rw [e2]
      exact fL_ins (h.trans e1) e3 e4
/-- the reference's: from 24 points down, each row that has them -/
def app (φ : fS) (co : Int64) (g : Int32) : fS := (vp_updL φ.1 φ.2.2 co, upd φ.2.1 φ.2.2 g, φ.2.2 + 1)
def ap1 (pt : Nat → Int32) (cd : Nat → Int64) (f p : Nat) : Nat → Nat → fS → fS
  | 0, _, φ => φ
  | k + 1, i, φ => ap1 pt cd f p k (i + 1) (if pt i = nI p then app φ (cd (f + i)) (nI p) else φ)
theorem ap1_s (pt : Nat → Int32) (cd : Nat → Int64) (f p k i : Nat) (φ : fS) : ap1 pt cd f p (k + 1) i φ = ap1 pt cd f p k (i + 1) (if pt i = nI p then app φ (cd (f + i)) (nI p) else φ) := rfl
def apA (pt : Nat → Int32) (cd : Nat → Int64) (f n : Nat) : Nat → fS → fS
  | 0, φ => φ
  | p + 1, φ => apA pt cd f n p (ap1 pt cd f (p + 1) n 0 φ)
theorem apA_s (pt : Nat → Int32) (cd : Nat → Int64) (f n p : Nat) (φ : fS) : apA pt cd f n (p + 1) φ = apA pt cd f n p (ap1 pt cd f (p + 1) n 0 φ) := rfl
theorem fL_app (φ : fS) (co : Int64) (g : Int32) : fL (app φ co g) = fL φ ++ [(co, g)] := by
  unfold fL
  show tl _ (φ.2.2 + 1) = _
  rw [tl_s]
  congr 1
  · exact tl_ext (fun i hi => by
      show (vp_updL _ _ _ _, upd _ _ _ _) = _
      rw [updL_ne (by omega), upd_ne (by omega)])
  · show [(vp_updL _ _ _ _, upd _ _ _ _)] = _
    rw [vp_us, upd_s]
theorem ap1_L {pt : Nat → Int32} {cd : Nat → Int64} {f p : Nat} {pf : Nat → Nat} (hp : p ≤ 24) {k i : Nat} (h : ∀ j, j < i + k → pt j = nI (pf j) ∧ pf j ≤ 24) {φ φ0 : fS} (hφ : fL φ = fL φ0 ++ bk (fun j => (cd (f + j), nI (pf j))) pf p i) : fL (ap1 pt cd f p k i φ) = fL φ0 ++ bk (fun j => (cd (f + j), nI (pf j))) pf p (i + k) := by
  induction k generalizing i φ with
  | zero => exact hφ
  | succ k ih =>
    rw [ap1_s, show i + (k + 1) = i + 1 + k by omega]
    refine ih (fun j hj => h j (by omega)) ?_
    have hi := h i (by omega)
    rw [bk_s, hi.1]
    by_cases he : pf i = p
    · rw [if_pos (by rw [he]), if_pos he, fL_app, hφ, List.append_assoc, ← he]
    · rw [if_neg (fun z => he ((nI_eq (by omega) (by omega)).mp z)), if_neg he]; exact hφ
theorem apA_L {pt : Nat → Int32} {cd : Nat → Int64} {f n p : Nat} {pf : Nat → Nat} (hp : p ≤ 24) (h : ∀ j, j < n → pt j = nI (pf j) ∧ pf j ≤ 24) {φ : fS} : fL (apA pt cd f n p φ) = fL φ ++ bkA (fun j => (cd (f + j), nI (pf j))) pf p n := by
  induction p generalizing φ with
  | zero => exact (List.append_nil _).symm
  | succ p ih =>
    rw [apA_s, ih (by omega), ap1_L (φ0 := φ) hp (by rw [Nat.zero_add]; exact h) (List.append_nil _).symm, List.append_assoc, Nat.zero_add]; rfl
theorem bkA_ext {g g' : Nat → Int64 × Int32} {f f' : Nat → Nat} {p n : Nat} (h : ∀ i, i < n → g i = g' i ∧ f i = f' i) : bkA g f p n = bkA g' f' p n := by
  induction p with
  | zero => rfl
  | succ p ih =>
    show bk _ _ _ _ ++ _ = bk _ _ _ _ ++ _
    rw [ih]
    congr 1
    unfold bk
    rw [List.filter_congr (q := fun i => decide (f' i = p + 1)) (fun i hi => by rw [(h i (List.mem_range.mp hi)).2])]
    exact List.map_congr_left (fun i hi => (h i (List.mem_range.mp (List.mem_filter.mp hi).1)).1)
def fE (φ : fS) (fn : Nat) (fC : Nat → Int64) (fP : Nat → Int32) : Prop := fL φ = fL (fC, fP, fn)
theorem fE_n {φ : fS} {fn : Nat} {fC : Nat → Int64} {fP : Nat → Int32} (h : fE φ fn fC fP) : φ.2.2 = fn := (tl_inj h).1
theorem fE_i {φ : fS} {fn : Nat} {fC : Nat → Int64} {fP : Nat → Int32} (h : fE φ fn fC fP) {i : Nat} (hi : i < fn) : φ.1 i = fC i ∧ φ.2.1 i = fP i := by
  have h1 := (tl_inj h).2 i (by rw [fE_n h]; exact hi)
  injection h1 with a b
  exact ⟨a, b⟩
theorem fE_sr {f pf : Nat → Nat} {cd cdM : Nat → Int64} {pt : Nat → Int32} {b n : Nat} (h24 : ∀ i, f i ≤ 24) (h : ∀ j, j < n → pt j = nI (pf j) ∧ pf j = f j ∧ cdM (b + j) = cd j) (c c' : Nat → Int64) (p p' : Nat → Int32) : fE (srF f cd n 0 (c, p, 0)) (apA pt cdM b n 24 (c', p', 0)).2.2 (apA pt cdM b n 24 (c', p', 0)).1 (apA pt cdM b n 24 (c', p', 0)).2.1 := by
  show fL _ = fL (apA pt cdM b n 24 (c', p', 0))
  rw [srF_L (i := 0) (φ := (c, p, 0)) h24 (by
    have : ∀ p g f, bkA g f p 0 = [] := fun p g f => by
      induction p with
      | zero => rfl
      | succ p ih => show bk g f (p + 1) 0 ++ bkA g f p 0 = []; rw [ih]; rfl
    rw [this]; rfl), apA_L (pf := pf) (Nat.le_refl _) (fun j hj => ⟨(h j hj).1, by rw [(h j hj).2.1]; exact h24 j⟩), Nat.zero_add]
  show _ = [] ++ _
  rw [List.nil_append]
  exact bkA_ext (fun i hi => ⟨by rw [(h i hi).2.1, (h i hi).2.2], (h i hi).2.1.symm⟩)
