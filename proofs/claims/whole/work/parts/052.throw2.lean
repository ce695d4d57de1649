theorem x_off {l : Launch} {e : Env} (hf : l.flags = pinnedFlags ++ [noTraceFlag]) (ha : l.admits e) : e.platform.stackTraces = false := by
  obtain ⟨-, -, -, -, hp, -⟩ := ha
  rw [hp]
  show l.stackTraces = false
  unfold Launch.stackTraces; rw [hf]; decide
/-- 'throw new X("..")' from a method's entry heap on -/
theorem x_throwW {p : Program} {l : Launch} {e : Env} {R : Room} {s : State} {m : MethodId} {args : Array Value} {below : List Frame} {meth : Method} {c : Code} {cc : ByteArray} {own X tx : String} {ia ib ic q pc : Nat} {names : List String} {ls : Array Slot} {st : List Value}
    (hfl : l.flags = pinnedFlags ++ [noTraceFlag]) (hx : p.tables.exec = Jvm.exec) (hb : c.code = cc) (hown : s.vm.findClass own = some m.cls) (hml : c.maxLocals = ls.size) (hex : c.exceptionTable.isEmpty = true) (hlocks : meth.locks = false)
    (hcl : (Cond.classLink own ia X).before args s = true) (hins : (Cond.instantiable X 6).before args s = true) (hini : (Cond.initialized X).before args s = true) (hZ : vk_R own ib tx q s)
    (hat : ∀ a ∈ Bundle.ownAtoms own ic X names, a.before args s = true) (hcls : Bundle.fit X = true) (hnames : ∀ n ∈ names, Bundle.fit n = true)
    (d0 : decode cc pc = .ok (.new ia, 3)) (d3 : decode cc (pc + 3) = .ok (.dup, 1)) (d4 : decode cc (pc + 3 + 1) = .ok (.ldc ib, 2)) (d6 : decode cc (pc + 3 + 1 + 2) = .ok (.invokespecial ic, 3)) (d9 : decode cc (pc + 3 + 1 + 2 + 3) = .ok (.athrow, 1))
    (hc : 1 ≤ R.cells) (hsl : 6 ≤ R.slots) (hfr : names.length + 3 < R.frames) (hlo : ((st.map fun v => v.category).sum + 1) + (13 * (names.length + 1) + 42) ≤ R.locals) :
    W p l e R s m args below meth c s.heap [] 0 0 (fun t => ∃ (a : Addr) (ce : Cell), t.status = .running ∧ Ended t below (.threw a) ∧ s.WarmedH t.vm ∧ s.sameButNew ({ t with vm := s.vm } : State) [] 1 6 ∧ t.heap[a]? = some ce ∧ ce.vm = .none ∧ s.vm.findClass X = some ce.cls) (F0 m pc ls st) := by
  obtain ⟨cX, kX, hfX, hkX, -⟩ := Cond.instantiable_spec hins
  refine W.newcK hx hb hown hcl hins hini rfl d0 (by omega) (by omega) hfX rfl fun H' kC hkC e1 z1 o1 => ?_
  cases hkX.symm.trans hkC
  refine lv_dup hx hb d3 rfl ?_
  refine va_ldcS hx hb hown hZ d4 ?_
  intro T hT X0
  have htr := x_off hfl X0.admits
  obtain ⟨U, h1, h2, h3, h4, h5, ce, h6, h7⟩ := X0.ctorThrowS hx htr (cls := X) (names := names) (ic := ic) hown hcls hnames hat (fun x hx => by cases hx) (a := s.heap.size) hfX hkX (by rw [hT]; exact e1) (Nat.le_refl _) (msg := .ref q) rfl
    (g := F0 m (pc + 3 + 1 + 2) ls (.ref q :: .ref s.heap.size :: .ref s.heap.size :: st)) rfl (by rw [hml]) rfl rfl rfl (by rw [hb]; exact d6) (by rw [hb]; exact d9) (fun x hx => by
      have : c.exceptionTable.toList = [] := by simpa using hex
      rw [this] at hx; cases hx) hfr (by show 2 * 0 + (1 + (st.map fun v => v.category).sum) + _ ≤ _; omega) hlocks
  exact ⟨U, h1, s.heap.size, ce, h2, h3, h4, h5, h6, h7.vm, h7.cls⟩
/-! contracts of methods that throw: the name of the class of what is thrown, the cells behind it, the world behind it -/
def x_QT (D : va_G) (cl : List vw_C) (A : Nat → Prop) (E : String) (post : Nat → xH → Prop) (st : State) (o : Outcome) (t : State) : Prop :=
  (∃ (x : Addr) (ce : Cell) (nx : Nat) (M : xH), o = .threw x ∧ t.heap[x]? = some ce ∧ ce.vm = .none ∧ t.vm.findClass E = some ce.cls ∧ post nx M ∧ t.heap.size = nx ∧ x_R D cl t A M t.heap) ∧ va_F A st t
def x_ET (A : Nat → Prop) (st : State) (t : State) (mc ms : Nat) : Prop := ∃ L : List Loc, (st.WarmedH t.vm ∧ st.sameButNew ({ t with vm := st.vm } : State) L mc ms) ∧ ∀ q ∈ L, A q.base
def x_MQT (below : List Frame) (D : va_G) (cl : List vw_C) (A : Nat → Prop) (E : String) (post : Nat → xH → Prop) (s : State) (mc ms : Nat) : State → Prop := fun t => ∃ o, t.status = .running ∧ Ended t below o ∧ x_QT D cl A E post s o t ∧ x_ET A s t mc ms
def xT_ (l : Launch) (cl : List vw_C) (y : MethodName) (ws : List Cond) (rm : Room) (As : List Value) (nx : Nat) (M : xH) (E : String) (post : Nat → xH → Prop) : Prop :=
  ∀ D : va_G, MetFree l y (headSpec ws rm) (x_Pc D cl As nx M) (fun _ _ _ _ _ => True) (fun _ st o t => x_QT D cl (x_A M nx) E post st o t ∧ x_ET (x_A M nx) st t rm.cells rm.slots)
theorem xT_.of {l : Launch} {cl : List vw_C} {y : MethodName} {ws ws' : List Cond} {rm : Room} {As : List Value} {nx : Nat} {M : xH} {E : String} {post : Nat → xH → Prop} {cc : ByteArray} {maxL : Nat} {ret : Option FieldType} (hy : plainName y.cls = true) (hw : ws = Cond.code y cc maxL ret :: ws') (hlen : (lg_sl As).length ≤ maxL)
    (body : ∀ (p : Program) (e : Env) (s : State) (m : MethodId) (args : Array Value) (below : List Frame) (meth : Method) (c : Code) (D : va_G), xF p s m args meth c D cl (x_A M nx) cc maxL y.cls ws → meth.sig.returnType = ret → c.exceptionTable.isEmpty = true →
      xW p l e rm s m args below meth c D cl (x_A M nx) maxL (x_MQT below D cl (x_A M nx) E post s rm.cells rm.slots) 0 0 nx M 0 (lv_args 0 As) []) : xT_ l cl y ws rm As nx M E post := by
  intro D
  refine MetFree.of_bodyS (code := cc) (maxLocals := maxL) (ret := ret) hy ?_ ?_
  · intro args s m h hn
    obtain ⟨meth, c, h1, h2, h3, h4, h5, h6, -, -⟩ := Cond.code_spec hn (atoms_spec (ws := ws) h _ (by rw [hw]; exact List.mem_cons_self))
    exact ⟨meth, c, h1, h2, h3, h4, h5, h6⟩
  · intro p e s m args below meth c s₁ B hml hv _
    obtain ⟨rfl, hsz, hK, hR, hE⟩ := hv
    have hts := atoms_spec (ws := ws) B.pre
    have hown : s.vm.findClass y.cls = some m.cls := findClass_of_methodNamed B.named
    have hexc : c.exceptionTable.isEmpty = true := B.noHandlers (hts _ (by rw [hw]; exact List.mem_cons_self))
    have K := body p e s m As.toArray below meth c D ⟨⟨B.exec, B.bytes, hml, hown, hts⟩, hK, fun q h => Or.inr (by omega), B.notSynchronized, hE⟩ B.returns hexc
    have hh0 : s₁.heap = s.heap := by rw [B.state]; rfl
    have K2 : W p l e rm s m As.toArray below meth c s.heap [] 0 0 (x_MQT below D cl (x_A M nx) E post s rm.cells rm.slots) (entryFrame m As.toArray maxL) := by
      rw [lg_entry_eq]
      exact K s.heap [] _ hsz va_S.rf (fun a e ha => ⟨(hR a e ha).1, Or.inl ⟨e, ha⟩⟩) (lv_entry As hlen)
    obtain ⟨t, a1, o, b1, b2, b3⟩ := K2 s₁ hh0 (Stand.of_body B)
    exact ⟨t, o, a1, b1, b2, b3⟩
section XTHR
variable {p : Program} {l : Launch} {e : Env} {R : Room} {s : State} {m : MethodId} {args : Array Value} {below : List Frame} {meth : Method} {c : Code} {D : va_G} {cl : List vw_C} {A : Nat → Prop} {nL : Nat} {Q : State → Prop} {cells slots nx : Nat} {M : xH} {pc : Nat} {lv : List (Nat × Value)} {st : List Value}
variable {cc : ByteArray} {own : String} {Ts : List Cond}
theorem x_same {T t : State} {m : MethodId} {args : Array Value} {below : List Frame} {k n : Nat} (h : (T.setFrames (.invoking m args :: below)).sameButNew ({ t with vm := T.vm } : State) [] k n) : T.sameButNew ({ t with vm := T.vm } : State) [] k n := by
  obtain ⟨h1, h2⟩ := h
  rw [State.setFrames_setFrames] at h1
  exact ⟨h1, h2⟩
/-- the throw, over the world: E is thrown, the world is as it was -/
theorem x_throw (F : xF p s m args meth c D cl A cc nL own Ts) {X tx : String} {ia ib ic : Nat} {names : List String} {E : String} {post : Nat → xH → Prop} {rc rs : Nat} (hE : E = X)
    (hfl : l.flags = pinnedFlags ++ [noTraceFlag]) (hex : c.exceptionTable.isEmpty = true)
    (hcl : Cond.classLink own ia X ∈ Ts) (hins : Cond.instantiable X 6 ∈ Ts) (hini : Cond.initialized X ∈ Ts) (hg : ∀ w ∈ Ts, (w.onTables && w.keeps) = true ∨ ∃ ty, w = .arrayClass ty) (hZ : ∃ q, vk_R own ib tx q s)
    (hat : ∀ (args' : Array Value) (U : State), x_E A U U.heap → (∀ w ∈ Ts, w.before args' U = true) → ∀ a ∈ Bundle.ownAtoms own ic X names, a.before args' U = true) (hcls : Bundle.fit X = true) (hnames : ∀ n ∈ names, Bundle.fit n = true)
    (d0 : decode cc pc = .ok (.new ia, 3)) (d3 : decode cc (pc + 3) = .ok (.dup, 1)) (d4 : decode cc (pc + 3 + 1) = .ok (.ldc ib, 2)) (d6 : decode cc (pc + 3 + 1 + 2) = .ok (.invokespecial ic, 3)) (d9 : decode cc (pc + 3 + 1 + 2 + 3) = .ok (.athrow, 1))
    (hc : cells + 1 ≤ R.cells) (hsl : slots + 6 ≤ R.slots) (hfr : names.length + 3 < R.frames) (hlo : ((st.map fun v => v.category).sum + 1) + (13 * (names.length + 1) + 42) ≤ R.locals) (hrc : cells + 1 ≤ rc) (hrs : slots + 6 ≤ rs) (hp : ∀ n', nx ≤ n' → post n' M) :
    xW p l e R s m args below meth c D cl A nL (x_MQT below D cl A E post s rc rs) cells slots nx M pc lv st := by
  intro H locs ls hz hS hR hl T hT X0
  subst hE
  have X1 := x_rebase X0 (R' := { frames := R.frames, cells := 1, slots := 6, locals := R.locals }) (Nat.le_refl _) (Nat.le_refl _) hc hsl
  have hW0 : s.WarmedH (T.setFrames (.invoking m args :: below)).vm := X0.warmed
  have hts : ∀ w ∈ Ts, w.before args (T.setFrames (.invoking m args :: below)) = true := fun w hw => word_at hW0 (hg w hw) (F.1.2.2.2.2 w hw)
  have hEE : x_E A (T.setFrames (.invoking m args :: below)) (T.setFrames (.invoking m args :: below)).heap := F.2.2.2.2.step hW0 (fun q h1 h2 => by show T.heap[q]? = _; rw [hT]; exact hS.2.1 q h1 h2) (fun _ h => h)
  obtain ⟨q, hq⟩ := hZ
  have K := x_throwW (R := { frames := R.frames, cells := 1, slots := 6, locals := R.locals }) (p := p) (l := l) (e := e) (s := T.setFrames (.invoking m args :: below)) (below := below) (meth := meth) (c := c) (ls := ls) (st := st) (pc := pc) hfl F.1.1 F.1.2.1 (by show T.vm.findClass own = _; rw [X0.warmed.alike.findClass]; exact F.1.2.2.2.1) (by rw [F.1.2.2.1]; exact hl.1.symm) hex F.2.2.2.1 (hts _ hcl) (hts _ hins) (hts _ hini) (hq.warm hW0) (hat args _ hEE hts) hcls hnames d0 d3 d4 d6 d9 (Nat.le_refl 1) (Nat.le_refl 6) hfr hlo
  obtain ⟨t, a1, a, ce, b1, b2, b3, b4, b5, b6, b7⟩ := K T rfl X1
  have hWt : s.WarmedH t.vm := State.WarmedH.trans X0.warmed b3
  have hk := x_kept b4
  have hkH : ∀ (q : Nat) (cell : Cell), H[q]? = some cell → t.heap[q]? = some cell := fun q cell h => hk q cell (by show T.heap[q]? = _; rw [hT]; exact h)
  have hkq : ∀ q : Nat, q < H.size → t.heap[q]? = H[q]? := fun q h => by
    have := Array.getElem?_eq_getElem h
    rw [this, hkH q _ this]
  have hzt : H.size ≤ t.heap.size := by
    have h : T.heap.size ≤ t.heap.size := b4.2.1
    rw [hT] at h; exact h
  refine ⟨t, a1, .threw a, b1, b2, ⟨⟨a, ce, t.heap.size, M, rfl, b5, b6, ?_, hp _ (by omega), rfl, fun b f hb => ⟨((hR b f hb).1.kept (hkq b ((hR b f hb).1.lt))).moved hWt.alike, (hR b f hb).2⟩⟩, ?_⟩, ?_⟩
  · rw [b3.alike.findClass]; exact b7
  · exact ⟨Nat.le_trans hS.1 hzt, fun q h1 h2 => (hkq q (Nat.lt_of_lt_of_le h1 hS.1)).trans (hS.2.1 q h1 h2)⟩
  · refine ⟨locs ++ [], ⟨hWt, ?_⟩, fun q hq => hS.2.2 q (by simpa using hq)⟩
    exact (X0.same.trans ((x_same b4).setVm s.vm)).mono hrc hrs
end XTHR
