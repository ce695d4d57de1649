section XCT
variable {p : Program} {l : Launch} {e : Env} {R : Room} {s : State} {m : MethodId} {args : Array Value} {below : List Frame} {meth : Method} {c : Code} {D : va_G} {cl : List vw_C} {A : Nat → Prop} {nL : Nat} {Q : State → Prop} {cells slots nx : Nat} {M : xH} {pc : Nat} {lv : List (Nat × Value)} {st : List Value}
variable {cc : ByteArray} {own : String} {Ts : List Cond}
/-- a call, from its making on, to its end -/
theorem x_go {T : State} {locs : List Loc} (X : Stand p l e R s m args below meth c T locs cells slots) {g : JFrame} (hg : g.method = m) (hsize : g.locals.size = c.maxLocals) {ig : Instr} {len : Nat} (hdg : decode c.code g.pc = .ok (ig, len)) (hW : 2 * g.monitorRoom + (g.stack.map fun v => v.category).sum ≤ 8)
    {mk : MethodId} {a : Array Value} {y : MethodName} {bytes : ByteArray} {maxL : Nat} {ret : Option FieldType} {ws : List Cond} {rm : Room} {P : Array Value → State → Prop} {Qm : Array Value → State → Outcome → State → Prop} (hn : T.methodNamed? y = some mk) (hM : MetFree l y (headSpec ws rm) P (fun _ _ _ _ _ => True) Qm)
    (hws : ∀ w ∈ ws, w.before a T = true) (hcode : Cond.code y bytes maxL ret ∈ ws) (hini : (Cond.initialized y.cls).before a T = true) (hfr : rm.frames + 1 ≤ R.frames) (hlo : 8 + (maxL + 11) + rm.locals ≤ R.locals) (hc : cells + rm.cells ≤ R.cells) (hs : slots + rm.slots ≤ R.slots) (hP : P a (T.calling g mk a)) :
    ∃ o s₂, Steps p.tables e below (doInvoke e (T.setTop g) [] mk a).1 s₂ ∧ Ended s₂ (.java g :: below) o ∧ Qm a (T.calling g mk a) o s₂ := by
  obtain ⟨methY, cY, hmY, hcY, -, hlY, -, -, -, -⟩ := Cond.code_spec hn (hws _ hcode)
  obtain ⟨kY, hkY, -⟩ := className_of_methodNamed hn
  have hinitY : kY.init = .initialized := Cond.initialized_spec (findClass_of_methodNamed hn) hkY hini
  have h : At T g.method c below := by rw [hg]; exact X.here
  have happ : (headSpec ws rm).appliesLoose y e.platform (T.calling g mk a) = true :=
    Spec.appliesLoose_calling (g := g) h hdg hn hkY hinitY (X.room_calling (g := g) (R' := rm) hsize hmY hcY hfr (by rw [hlY]; omega) hc hs) (atoms_intro hws)
  obtain ⟨mid, hmid⟩ := h.above
  have hfrs : (T.setTop g).frames = (.java g :: mid) ++ below := by rw [State.frames_setTop' g h.top, hmid]; rfl
  obtain ⟨o, s₂, hsteps, -, hend, hq⟩ := Steps.callFree hM p X.admits X.cas X.clock (acts := []) hfrs happ hP trivial
  rw [State.frames_setTop' g h.top, X.tail] at hend
  exact ⟨o, s₂, hsteps, hend, hq⟩
/-- what a call that throws leaves in the caller: the walk stands, with the note of the throw over its frame -/
theorem x_outT {T : State} {H : Heap} {locs : List Loc} (F : xF p s m args meth c D cl A cc nL own Ts) (hT : T.heap = H) (hz : H.size = nx) (hS : va_S A s.heap H locs) (hR : x_R D cl s A M H) (X : Stand p l e R s m args below meth c T locs cells slots) {g : JFrame} (hg : g.method = m) {mk : MethodId} {a : Array Value} {rm : Room} {E : String} {post : Nat → xH → Prop} {o : Outcome} {s₂ : State}
    (hend : Ended s₂ (.java g :: below) o) (hq : x_QT D cl (x_A M nx) E post (T.calling g mk a) o s₂ ∧ x_ET (x_A M nx) (T.calling g mk a) s₂ rm.cells rm.slots) :
    ∃ (x : Addr) (ce : Cell) (T' : State) (locs' : List Loc) (nx' : Nat) (M' : xH), Stand p l e R s m args below meth c T' locs' (cells + rm.cells) (slots + rm.slots) ∧ T'.heap[x]? = some ce ∧ ce.vm = .none ∧ s.vm.findClass E = some ce.cls ∧ post nx' M' ∧ T'.heap.size = nx' ∧ x_R D cl s A M' T'.heap ∧ va_S A s.heap T'.heap locs' ∧ s₂ = (T'.setTop g).pushFrame (.throwing x) := by
  obtain ⟨⟨⟨x, ce, nx', M', rfl, q1, q2, q3, q4, q5, q6⟩, qf⟩, L, ⟨hW2, hsame⟩, hL⟩ := hq
  obtain ⟨T', X', hW', -, ht⟩ := X.outOfThrown hg hend hW2 hsame
  have hvm : s₂.vm = T'.vm := by rw [ht]; exact throwing_vm T' g x
  have hhp : s₂.heap = T'.heap := by rw [ht]; exact throwing_heap T' g x
  have hal : s.vm.Alike s₂.vm := by rw [hvm]; exact X'.warmed.alike
  have hA1 := x_sub F hz hS hR
  have h1 : H.size ≤ s₂.heap.size := by have h : T.heap.size ≤ s₂.heap.size := qf.1; rw [hT] at h; exact h
  have h2 : ∀ q : Nat, q < H.size → ¬ x_A M nx q → s₂.heap[q]? = H[q]? := fun q hq hn => by
    have h : s₂.heap[q]? = T.heap[q]? := qf.2 q (by show q < T.heap.size; rw [hT]; exact hq) hn
    rw [hT] at h; exact h
  refine ⟨x, ce, T', locs ++ L, nx', M', X', by rw [← hhp]; exact q1, q2, by rw [← hal.findClass]; exact q3, q4, by rw [← hhp]; exact q5, by rw [← hhp]; exact (q6.moved hal.symm).weaken (fun q _ _ h => hA1 q h), ?_, ht⟩
  rw [← hhp]
  exact ⟨Nat.le_trans hS.1 h1, fun q g1 g2 => (h2 q (Nat.lt_of_lt_of_le g1 hS.1) (fun z => g2 (hA1 q z))).trans (hS.2.1 q g1 g2), fun q hq => by
    rcases List.mem_append.mp hq with h | h
    · exact hS.2.2 q h
    · exact hA1 _ (hL q h)⟩
/-- ... and if it has no handler, the caller throws it on -/
theorem x_on {T' : State} {locs' : List Loc} (F : xF p s m args meth c D cl A cc nL own Ts) {g : JFrame} (hg : g.method = m) (hlk : g.locked = none) (hen : g.entered = []) (hex : c.exceptionTable.isEmpty = true) {x : Addr} {ce : Cell} {nx' : Nat} {M' : xH} {E : String} {post : Nat → xH → Prop} {rc rs : Nat} (hrc : cells ≤ rc) (hrs : slots ≤ rs)
    (X' : Stand p l e R s m args below meth c T' locs' cells slots) (h1 : T'.heap[x]? = some ce) (h2 : ce.vm = .none) (h3 : s.vm.findClass E = some ce.cls) (h4 : post nx' M') (h5 : T'.heap.size = nx') (h6 : x_R D cl s A M' T'.heap) (h7 : va_S A s.heap T'.heap locs') :
    ∃ t, Steps p.tables e below ((T'.setTop g).pushFrame (.throwing x)) t ∧ x_MQT below D cl A E post s rc rs t := by
  obtain ⟨a1, a2, a3, a4, a5⟩ := X'.leaveThrown x hg hlk hen (fun z hz => by
    have : c.exceptionTable.toList = [] := by simpa using hex
    rw [this] at hz; cases hz) F.2.2.2.1
  refine ⟨_, a1, .threw x, a2, a3, ⟨⟨x, ce, nx', M', rfl, h1, h2, by rw [a4.alike.findClass]; exact h3, h4, h5, h6.moved a4.alike⟩, h7.1, h7.2.1⟩, locs', ⟨a4, a5.mono hrc hrs⟩, h7.2.2⟩
theorem x_invVT (F : xF p s m args meth c D cl A cc nL own Ts) {y : MethodName} {bytes : ByteArray} {maxL index n : Nat} {ret : Option FieldType} {ws ws' : List Cond} {rm : Room} {As stk : List Value} {C : String} {T0 : u_T} {N ci a : Nat} {fs : List Value} {E : String} {post0 post : Nat → xH → Prop} {rc rs : Nat}
    (hG : GoodIn Ts (wsV own index C y ws)) (hw : ws = Cond.code y bytes maxL ret :: ws') (hd : y.cls = C ∧ y.cls ≠ "java/lang/invoke/MethodHandle" ∧ y.cls ≠ "java/lang/invoke/VarHandle" ∧ (parseMethodDescriptor y.desc).map (fun d => d.parameters.length) = some n) (hc : cl[ci]? = some (C, T0, N)) (hdg : decode cc pc = .ok (.invokevirtual index, 3)) (hRm : rm.frames + 1 ≤ R.frames ∧ 8 + (maxL + 11) + rm.locals ≤ R.locals)
    (hM : xT_ l cl y ws rm (.ref a :: As) nx M E post0) (he : M a = some (.inr (ci, fs))) (hn : As.length = n) (hstk : stk = As.reverse ++ .ref a :: st) (hst8 : (st.map fun v => v.category).sum ≤ 8) (hf : cells + rm.cells ≤ R.cells ∧ slots + rm.slots ≤ R.slots) (hex : c.exceptionTable.isEmpty = true) (hrc : cells + rm.cells ≤ rc) (hrs : slots + rm.slots ≤ rs) (hp : ∀ n' M', post0 n' M' → post n' M') :
    xW p l e R s m args below meth c D cl A nL (x_MQT below D cl A E post s rc rs) cells slots nx M pc lv stk := by
  intro H locs ls hz hS hR hl T hT X
  subst hstk
  obtain ⟨⟨-, -, -, -, hws, hcw, hcode, hini, hy, hlen, hlk⟩, hin, hse⟩ := cwV (R := R) n F.1.2.2.2.2 hG hw (rfl : rm.cells = rm.cells) rfl hd hRm
  obtain ⟨cellB, hcB, hoB, hclB⟩ := va_recv F.2.1 (x_one (q := (a, .inr (ci, fs))) (hR a _ he).1) (q0 := 0) hc rfl
  obtain ⟨mk, methM, hnamed, hmethM, hstM, habM⟩ := Cond.instanceMethod_spec hin
  obtain ⟨methM', cM, hmethM', -, -, -, -, -, -, hsigM⟩ := Cond.code_spec hnamed hcode
  cases hmethM.symm.trans hmethM'
  obtain ⟨c2, r2, m2, q1, q2, q3, q4, kP, hkP, hkPi⟩ := Cond.selects_spec hse
  cases hclB.symm.trans q1
  cases (State.methodFound?_of_named hnamed hy).symm.trans q2
  cases hnamed.symm.trans q3
  have hselP : selectMethod e.platform s.vm cellB.cls mk = .method mk := by rw [Launch.admits_selectMethod X.admits]; exact q4
  obtain ⟨vm₁, X₁, hstep₁⟩ := X.invokevirtual F.1.1 F.1.2.2.2.1 hlk hnamed hmethM hstM hkP hkPi hy (a := a) (cell := cellB) (by rw [hT]; exact hcB)
    (fun z h => by rw [h] at hoB; cases hoB) hselP hmethM habM hkP hkPi (g := F0 m pc ls (As.reverse ++ .ref a :: st)) rfl (argsL := As) (rest := st) (hn.trans (hlen _ hsigM)) rfl (by rw [F.1.2.1]; exact hdg)
  have hml : (F0 m pc ls st).locals.size = c.maxLocals := by rw [F.1.2.2.1]; exact hl.1
  obtain ⟨o, s₂, hsteps, hend, hq⟩ := x_go X₁ (g := F0 m pc ls st) rfl hml (by rw [F.1.2.1]; exact hdg) (lv_room hst8) (X₁.named hnamed) (hM D) (fun w hw2 => hws w hw2 _ _ X₁.warmed) hcw (word_at X₁.warmed (Or.inl (by first | rfl | simp [Cond.onTables, Cond.keeps, Cond.steady])) hini) hRm.1 hRm.2 hf.1 hf.2
    (x_blind _ _ _ _ (x_pre F (As := .ref a :: As) hz hS hR (T.setVm vm₁) hT X₁.warmed))
  obtain ⟨x, ce, T', locs', nx', M', X', b1, b2, b3, b4, b5, b6, b7, rfl⟩ := x_outT F (T := T.setVm vm₁) hT hz hS hR X₁ (g := F0 m pc ls st) rfl hend hq
  obtain ⟨t, c1, c2⟩ := x_on F (g := F0 m pc ls st) rfl rfl rfl hex hrc hrs X' b1 b2 b3 (hp _ _ b4) b5 b6 b7
  exact ⟨t, hstep₁ _ fun acts => by rw [doInvoke_state]; exact hsteps.trans c1, c2⟩
theorem x_invST (F : xF p s m args meth c D cl A cc nL own Ts) {y : MethodName} {bytes : ByteArray} {maxL index n : Nat} {ret : Option FieldType} {ws ws' : List Cond} {rm : Room} {As stk : List Value} {E : String} {post0 post : Nat → xH → Prop} {rc rs : Nat}
    (hG : GoodIn Ts (wsS own index y ws)) (hw : ws = Cond.code y bytes maxL ret :: ws') (hd : y.cls = own ∧ y.cls ≠ "java/lang/invoke/MethodHandle" ∧ y.cls ≠ "java/lang/invoke/VarHandle" ∧ (parseMethodDescriptor y.desc).map (fun d => d.parameters.length) = some n) (hdg : decode cc pc = .ok (.invokestatic index, 3)) (hRm : rm.frames + 1 ≤ R.frames ∧ 8 + (maxL + 11) + rm.locals ≤ R.locals)
    (hM : xT_ l cl y ws rm As nx M E post0) (hn : As.length = n) (hstk : stk = As.reverse ++ st) (hst8 : (st.map fun v => v.category).sum ≤ 8) (hf : cells + rm.cells ≤ R.cells ∧ slots + rm.slots ≤ R.slots) (hex : c.exceptionTable.isEmpty = true) (hrc : cells + rm.cells ≤ rc) (hrs : slots + rm.slots ≤ rs) (hp : ∀ n' M', post0 n' M' → post n' M') :
    xW p l e R s m args below meth c D cl A nL (x_MQT below D cl A E post s rc rs) cells slots nx M pc lv stk := by
  intro H locs ls hz hS hR hl T hT X
  subst hstk
  obtain ⟨⟨-, -, -, -, hws, hcw, hcode, hini, hy, hlen, hlk⟩, hstt⟩ := cwS (R := R) n F.1.2.2.2.2 hG hw (rfl : rm.cells = rm.cells) rfl hd hRm
  obtain ⟨mk, hnamed⟩ := Cond.code_named hcode
  obtain ⟨methM, cM, hmethM, -, -, -, -, -, -, hsigM⟩ := Cond.code_spec hnamed hcode
  have hstatic : methM.isStatic = true := Cond.static_spec hnamed hmethM hstt
  obtain ⟨kP, hkP, -⟩ := className_of_methodNamed hnamed
  have hinitP : kP.init = .initialized := Cond.initialized_spec (findClass_of_methodNamed hnamed) hkP hini
  obtain ⟨vm₁, X₁, hstep₁⟩ := X.invokestatic F.1.1 F.1.2.2.2.1 hlk hnamed hmethM hstatic hkP hinitP hy (g := F0 m pc ls (As.reverse ++ st)) rfl (argsL := As) (rest := st) (hn.trans (hlen _ hsigM)) rfl (by rw [F.1.2.1]; exact hdg)
  have hml : (F0 m pc ls st).locals.size = c.maxLocals := by rw [F.1.2.2.1]; exact hl.1
  obtain ⟨o, s₂, hsteps, hend, hq⟩ := x_go X₁ (g := F0 m pc ls st) rfl hml (by rw [F.1.2.1]; exact hdg) (lv_room hst8) (X₁.named hnamed) (hM D) (fun w hw2 => hws w hw2 _ _ X₁.warmed) hcw (word_at X₁.warmed (Or.inl (by first | rfl | simp [Cond.onTables, Cond.keeps, Cond.steady])) hini) hRm.1 hRm.2 hf.1 hf.2
    (x_blind _ _ _ _ (x_pre F (As := As) hz hS hR (T.setVm vm₁) hT X₁.warmed))
  obtain ⟨x, ce, T', locs', nx', M', X', b1, b2, b3, b4, b5, b6, b7, rfl⟩ := x_outT F (T := T.setVm vm₁) hT hz hS hR X₁ (g := F0 m pc ls st) rfl hend hq
  obtain ⟨t, c1, c2⟩ := x_on F (g := F0 m pc ls st) rfl rfl rfl hex hrc hrs X' b1 b2 b3 (hp _ _ b4) b5 b6 b7
  exact ⟨t, hstep₁ _ fun acts => by rw [doInvoke_state]; exact hsteps.trans c1, c2⟩
end XCT
