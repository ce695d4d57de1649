/-! WHAT A STATE IS (own words): a Tree at a: its six arrays at a + 1 .. a + 6 -/
def tAt (M : xH) (a : Nat) (cd : Nat → Int64) (ds ps ch wc : Nat → Int32) (wd : Nat → Int64) (n cp : Nat) : Prop :=
  M a = some (.inr (4, [.ref (a + 1), .ref (a + 2), .ref (a + 3), .ref (a + 4), .ref (a + 5), .ref (a + 6), .int (nI n), .int (nI cp)])) ∧ M (a + 1) = some (.inl (.long, 40, .inr (.inl cd))) ∧ M (a + 2) = some (.inl (.int, 40, .inl ds)) ∧ M (a + 3) = some (.inl (.int, 40, .inl ps)) ∧ M (a + 4) = some (.inl (.int, 40, .inl ch)) ∧ M (a + 5) = some (.inl (.int, 40, .inl wc)) ∧ M (a + 6) = some (.inl (.long, 160, .inr (.inl wd))) ∧ n ≤ 40 ∧ cp ≤ 40
/-- the first place from i on, within k, where P holds -/
def fi (P : Nat → Bool) : Nat → Nat → Option Nat
  | 0, _ => none
  | k + 1, i => if P i then some i else fi P k (i + 1)
def oi (r : Option Nat) : Int32 := match r with
  | none => -1
  | some j => nI j
theorem x_out {i : Int32} {n : Nat} (hn : n < 2 ^ 31) (h : ¬ vp_in i n) (h1 : ¬ i < 0) (h2 : ¬ nI n ≤ i) : False := by
  rcases pk_ix i hn with q | q | ⟨j, hj, rfl⟩
  · exact h1 q
  · exact h2 q
  · exact h (vp_in_nI hj hn)
