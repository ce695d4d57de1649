/-! WHAT A STATE IS (own words): a Tree at a: its six arrays at a + 1 .. a + 6 -/
def tAt (M : xH) (a : Nat) (cd : Nat → Int64) (ds ps ch wc : Nat → Int32) (wd : Nat → Int64) (n cp : Nat) : Prop :=
  M a = some (.inr (4, [.ref (a + 1), .ref (a + 2), .ref (a + 3), .ref (a + 4), .ref (a + 5), .ref (a + 6), .int (nI n), .int (nI cp)])) ∧ M (a + 1) = some (.inl (.long, 40, .inr (.inl cd))) ∧ M (a + 2) = some (.inl (.int, 40, .inl ds)) ∧ M (a + 3) = some (.inl (.int, 40, .inl ps)) ∧ M (a + 4) = some (.inl (.int, 40, .inl ch)) ∧ M (a + 5) = some (.inl (.int, 40, .inl wc)) ∧ M (a + 6) = some (.inl (.long, 160, .inr (.inl wd))) ∧ n ≤ 40 ∧ cp ≤ 40
/-- the first place from i on, within k, where P holds -/
def fi (P : Nat → Bool) : Nat → Nat → Option Nat
  | 0, _ => none
  | k + 1, i => if P i then some i else fi P k (i + 1)
def oi (r : Option Nat) : Int32 := match r with
  | none => -1
  | some j => nI j
theorem x_out {i : Int32} {n : Nat} (hn : n < 2 ^ 31) (h : ¬ vp_in i n) (h1 : ¬ i < 0) (h2 : ¬ nI n ≤ i) : False := by
  rcases pk_ix i hn with q | q | ⟨j, hj, rfl⟩
  · exact h1 q
  · exact h2 q
  · exact h (vp_in_nI hj hn)
def bI (b : Bool) : Int32 := match b with
  | true => nI 1
  | false => nI 0
theorem bI_0 {b : Bool} (h : bI b = 0) : b = false := by cases b <;> first | rfl | exact absurd h (by decide)
theorem bI_1 {b : Bool} (h : ¬ bI b = 0) : b = true := by cases b <;> first | rfl | exact absurd rfl h
theorem bI_nar (b : Bool) : narrow .boolean (.int (bI b)) = .int (bI b) := by cases b <;> rfl
theorem x_t {b : Bool} {nx : Nat} {M : xH} (h : b = true) : x_is (some (.int (bI b))) nx M (some (.int (nI 1))) nx M := by subst h; exact x_is_i _ _ _
theorem x_f {b : Bool} {nx : Nat} {M : xH} (h : b = false) : x_is (some (.int (bI b))) nx M (some (.int (nI 0))) nx M := by subst h; exact x_is_i _ _ _
theorem x_e {v : Int32} {w : Int32} {nx : Nat} {M : xH} (h : v = w) : x_is (some (.int w)) nx M (some (.int v)) nx M := by subst h; exact x_is_i _ _ _
theorem x_el {v : Int64} {w : Int64} {nx : Nat} {M : xH} (h : v = w) : x_is (some (.long w)) nx M (some (.long v)) nx M := by subst h; exact x_is_i _ _ _
/-- the number below k, -1 below 0 -/
def pd (k : Nat) : Int32 := match k with
  | 0 => -1
  | j + 1 => nI j
theorem pd_of (k : Nat) : nI k - nI 1 = pd k := by
  cases k with
  | zero => decide
  | succ j => exact nI_pred j
theorem pd_dec (k : Nat) : nI k + Int32.ofInt (-1) = pd k := by
  cases k with
  | zero => decide
  | succ j => exact pk_m1 j
/-- the last place below k where P holds -/
def la (P : Nat → Bool) : Nat → Option Nat
  | 0 => none
  | k + 1 => if P k then some k else la P k
theorem la_lt {P : Nat → Bool} {n i : Nat} (h : la P n = some i) : i < n ∧ P i = true := by
  induction n with
  | zero => cases h
  | succ k ih =>
    unfold la at h
    split at h
    · cases h; exact ⟨Nat.lt_succ_self _, by assumption⟩
    · exact ⟨Nat.lt_succ_of_lt (ih h).1, (ih h).2⟩
theorem fi_lt {P : Nat → Bool} {k i j : Nat} (h : fi P k i = some j) : i ≤ j ∧ j < i + k ∧ P j = true := by
  induction k generalizing i with
  | zero => cases h
  | succ k ih =>
    unfold fi at h
    split at h
    · cases h; exact ⟨Nat.le_refl _, by omega, by assumption⟩
    · obtain ⟨a, b, c⟩ := ih h; exact ⟨by omega, by omega, c⟩
theorem nI_m1 {j : Nat} (h : j < 2 ^ 31) : ¬ nI j = -1 := fun z => by
  have h1 := nI_toInt h
  rw [z] at h1
  have h2 : ((-1 : Int32)).toInt = -1 := by decide
  rw [h2] at h1
  omega
theorem fi_s (P : Nat → Bool) (k i : Nat) : fi P (k + 1) i = if P i then some i else fi P k (i + 1) := rfl
theorem la_s (P : Nat → Bool) (k : Nat) : la P (k + 1) = if P k then some k else la P k := rfl
theorem m1_out (n : Nat) : ¬ vp_in (-1) n := fun h => h (Or.inl (by decide))
theorem chr_nar {q : Nat} (h : q < 65536) : narrow .char (.int (nI q)) = .int (nI q) := (pk_charN h).1
