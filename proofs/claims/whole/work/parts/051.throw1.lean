/-! THROWS: a point of a walk seen as an entry of its own -/
theorem x_rebase {p : Program} {l : Launch} {e : Env} {R : Room} {s : State} {m : MethodId} {args : Array Value} {below : List Frame} {meth : Method} {c : Code} {T : State} {locs : List Loc} {cells slots : Nat} (X : Stand p l e R s m args below meth c T locs cells slots) {R' : Room} (h1 : R'.frames ≤ R.frames) (h2 : R'.locals ≤ R.locals) (h3 : cells + R'.cells ≤ R.cells) (h4 : slots + R'.slots ≤ R.slots) :
    Stand p l e R' (T.setFrames (.invoking m args :: below)) m args below meth c T [] 0 0 := by
  obtain ⟨g₀, hfr⟩ := X.frames_eq
  have hcur : T.cur < T.threads.size := State.cur_lt_of_frames hfr
  obtain ⟨th, hth, -⟩ := State.frames_cons hfr
  have hf' : (T.setFrames (.invoking m args :: below)).frames = .invoking m args :: below := State.frames_setFrames _ hcur
  have hm' : (T.setFrames (.invoking m args :: below)).vm.method? m = some meth := X.method'
  have hroom : (T.setFrames (.invoking m args :: below)).hasRoom e.platform R' = true := by
    have h := X.room
    simp only [State.hasRoom, Bool.and_eq_true, decide_eq_true_eq] at h ⊢
    obtain ⟨⟨⟨⟨a1, a2, a3, a4, a5, a6⟩, a7⟩, a8⟩, a9⟩ := h
    rw [State.localsInUse_invoking X.frames X.method X.code] at a1 a4 a5
    rw [X.frames, List.length_cons] at a2 a3
    rw [State.localsInUse_invoking hf' hm' X.code, hf', List.length_cons, State.stackLimits_setFrames, State.stackBytes_setFrames, X.limits, X.bytes]
    have hs := X.heapSize
    have hu := X.used
    refine ⟨⟨⟨⟨by omega, by omega, by omega, by omega, by omega, a6⟩, ?_⟩, ?_⟩, X.book⟩
    · show T.heap.size + R'.cells ≤ _; omega
    · show T.slotsUsed + R'.slots ≤ _; omega
  have hhears : (T.setFrames (.invoking m args :: below)).hears m below = true := by
    have h := X.hears
    have hme : ∀ q, T.vm.method? q = s.vm.method? q := X.warmed.alike.method?
    cases below with
    | nil => simpa [State.hears, hme] using h
    | cons f r =>
      cases f <;> simp_all [State.hears, State.code?_eq]
  refine ⟨X.admits, X.cas, X.clock, hf', hroom, hhears, hm', X.code, X.here, X.tail, State.WarmedH.refl _, by rw [State.stackLimits_setFrames], by rw [State.stackBytes_setFrames], ?_⟩
  obtain ⟨th', hth', -⟩ := State.frames_cons hf'
  have hc' : (T.setFrames (.invoking m args :: below)).cur < (T.setFrames (.invoking m args :: below)).threads.size := State.cur_lt_of_frames hf'
  have h := (State.sameButNew.refl (T.setFrames (.invoking m args :: below)) hth').setFrames T.frames hc'
  rw [State.setFrames_setFrames, State.setFrames_self hth] at h
  exact h
/-- nothing that was there has changed, where no slot is named -/
theorem x_kept {s t : State} {k n : Nat} (h : s.sameButNew t [] k n) : ∀ (q : Nat) (cell : Cell), s.heap[q]? = some cell → t.heap[q]? = some cell := by
  intro q cell hq
  obtain ⟨c', h1, h2, h3, h4⟩ := h.2.2.2.2.2 q cell hq
  rw [h1, h2]
  congr 1
  have : c'.slots = cell.slots := by
    apply Array.ext_getElem?
    intro i
    exact h4 i (fun z => by cases z)
  rw [this]
