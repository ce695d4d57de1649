/-! THE V-KIT: the machine over one world M: what lies at which address (an array's entry has its type instead of its class's number); nx: how many cells there are. -/
abbrev xE : Type := (FieldType × vp_A) ⊕ (Nat × List Value)
abbrev xH : Type := Nat → Option xE
def x_up (M : xH) (a : Nat) (e : xE) : xH := fun b => if b = a then some e else M b
theorem x_up_s {M : xH} {a : Nat} {e : xE} : x_up M a e a = some e := if_pos rfl
theorem x_up_n {M : xH} {a b : Nat} {e : xE} (h : b ≠ a) : x_up M a e b = M b := if_neg h
theorem x_up_k {M : xH} {a b : Nat} {e f : xE} (hM : M b = some f) (h : b ≠ a) : x_up M a e b = some f := (x_up_n h).trans hM
def x_at (D : va_G) (cl : List vw_C) (U : State) (H : Heap) (a : Nat) (e : xE) : Prop := match e with
  | .inl q => ∃ cA : ClassId, (ArrOfT U cA q.1 ∧ va_RA U cA q.1) ∧ H[a]? = some (vp_cell cA q.2)
  | .inr o => va_at D cl (a, .inr o) H
theorem x_at.kept {D : va_G} {cl : List vw_C} {U : State} {H H1 : Heap} {a : Nat} {e : xE} (h : x_at D cl U H a e) (hq : H1[a]? = H[a]?) : x_at D cl U H1 a e := by
  cases e with
  | inl q =>
    obtain ⟨cA, h1, h2⟩ := h
    exact ⟨cA, h1, hq.trans h2⟩
  | inr o => exact va_at.kept (q := (a, .inr o)) h hq
theorem x_at.lt {D : va_G} {cl : List vw_C} {U : State} {H : Heap} {a : Nat} {e : xE} (h : x_at D cl U H a e) : a < H.size := by
  cases e with
  | inl q =>
    obtain ⟨cA, h1, h2⟩ := h
    exact (Array.getElem?_eq_some_iff.mp h2).1
  | inr o => exact va_at.lt (q := (a, .inr o)) h
theorem x_at.moved {D : va_G} {cl : List vw_C} {u U : State} (hvm : u.vm.Alike U.vm) {H : Heap} {a : Nat} {e : xE} (h : x_at D cl u H a e) : x_at D cl U H a e := by
  cases e with
  | inl q =>
    obtain ⟨cA, h1, h2⟩ := h
    exact ⟨cA, ⟨arrOfT_moved hvm h1.1, h1.2.moved hvm⟩, h2⟩
  | inr o => exact h
def x_R (D : va_G) (cl : List vw_C) (U : State) (A : Nat → Prop) (M : xH) (H : Heap) : Prop :=
  ∀ (a : Nat) (e : xE), M a = some e → x_at D cl U H a e ∧ A a
theorem x_R.set {D : va_G} {cl : List vw_C} {U : State} {A : Nat → Prop} {M : xH} {H H1 : Heap} (h : x_R D cl U A M H) {a : Nat} {e : xE} (hA : A a) (h1 : x_at D cl U H1 a e) (oq : ∀ q : Nat, q ≠ a → H1[q]? = H[q]?) : x_R D cl U A (x_up M a e) H1 := by
  intro b f hb
  by_cases hab : b = a
  · subst hab
    rw [x_up_s] at hb
    cases hb
    exact ⟨h1, hA⟩
  · rw [x_up_n hab] at hb
    exact ⟨(h b f hb).1.kept (oq b hab), (h b f hb).2⟩
theorem x_R.new {D : va_G} {cl : List vw_C} {U : State} {A : Nat → Prop} {M : xH} {H H1 : Heap} (h : x_R D cl U A M H) {e : xE} (hA : A H.size) (h1 : x_at D cl U H1 H.size e) (oq : ∀ q : Nat, q < H.size → H1[q]? = H[q]?) : x_R D cl U A (x_up M H.size e) H1 := by
  intro b f hb
  by_cases hab : b = H.size
  · subst hab
    rw [x_up_s] at hb
    cases hb
    exact ⟨h1, hA⟩
  · rw [x_up_n hab] at hb
    exact ⟨(h b f hb).1.kept (oq b ((h b f hb).1.lt)), (h b f hb).2⟩
theorem x_R.moved {D : va_G} {cl : List vw_C} {u U : State} (hvm : u.vm.Alike U.vm) {A : Nat → Prop} {M : xH} {H : Heap} (h : x_R D cl u A M H) : x_R D cl U A M H := fun a e ha => ⟨(h a e ha).1.moved hvm, (h a e ha).2⟩
theorem x_R.weaken {D : va_G} {cl : List vw_C} {U : State} {A B : Nat → Prop} {M : xH} {H : Heap} (h : x_R D cl U A M H) (hB : ∀ a e, M a = some e → A a → B a) : x_R D cl U B M H := fun a e ha => ⟨(h a e ha).1, hB a e ha (h a e ha).2⟩
/-- which cells a method may write: its world's, and those that it makes -/
def x_A (M : xH) (nx : Nat) : Nat → Prop := fun q => (∃ e : xE, M q = some e) ∨ nx ≤ q
theorem x_one {D : va_G} {cl : List vw_C} {q : Nat × va_E} {H : Heap} (h : va_at D cl q H) : va_P D cl [q] H := fun k q' hk => by
  cases k with
  | zero => cases hk; exact h
  | succ k => simp at hk
theorem x_K1 {D : va_G} {cl : List vw_C} {U : State} (hK : va_K D cl [] U) {cA : ClassId} {ty : FieldType} (h : ArrOfT U cA ty ∧ va_RA U cA ty) : va_K D cl [(cA, ty)] U := ⟨hK.1, fun k q hk => by
  cases k with
  | zero => cases hk; exact h
  | succ k => simp at hk⟩
def xF (p : Program) (s : State) (m : MethodId) (args : Array Value) (meth : Method) (c : Code) (D : va_G) (cl : List vw_C) (A : Nat → Prop) (cc : ByteArray) (nL : Nat) (own : String) (Ts : List Cond) : Prop :=
  CallFix p m c cc nL s args Ts own ∧ va_K D cl [] s ∧ (∀ q : Nat, s.heap.size ≤ q → A q) ∧ meth.locks = false ∧ x_E A s s.heap
def xW (p : Program) (l : Launch) (e : Env) (R : Room) (s : State) (m : MethodId) (args : Array Value) (below : List Frame) (meth : Method) (c : Code) (D : va_G) (cl : List vw_C) (A : Nat → Prop) (nL : Nat) (Q : State → Prop) (cells slots nx : Nat) (M : xH) (pc : Nat) (lv : List (Nat × Value)) (st : List Value) : Prop :=
  ∀ (H : Heap) (locs : List Loc) (ls : Array Slot), H.size = nx → va_S A s.heap H locs → x_R D cl s A M H → lv_has ls nL lv → W p l e R s m args below meth c H locs cells slots Q (F0 m pc ls st)
