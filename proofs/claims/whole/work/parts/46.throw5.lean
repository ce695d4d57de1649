/-! MORE ROOM; METHODS WITH HANDLERS -/
theorem xC.up {l : Launch} {cl : List vw_C} {y : MethodName} {ws : List Cond} {rm rm' : Room} {As : List Value} {nx : Nat} {M : xH} {post : xO → Nat → xH → Prop} (h : xC l cl y ws rm As nx M post) (hf : rm.frames ≤ rm'.frames) (hl : rm.locals ≤ rm'.locals) (hc : rm.cells ≤ rm'.cells) (hs : rm.slots ≤ rm'.slots) : xC l cl y ws rm' As nx M post := fun D => by
  have h1 := Free.MetFree.respec (S' := headSpec ws rm') (h D) (fun _ _ z => z) hf hl hc hs
  exact Free.MetFree.mono h1 (fun _ _ z => z) (fun _ _ _ _ _ z => z) (fun a s o s' _ z => by
    obtain ⟨z1, L, ⟨a1, a2, a3⟩, a4⟩ := z
    exact ⟨z1, L, ⟨a1, a2, a3.mono hc hs⟩, a4⟩)
theorem x_tab {L : List ExceptionTableEntry} {hs : List (Nat × Nat × Nat × Nat)} (h : L.map (fun h => (h.startPc, h.endPc, h.handlerPc, h.catchType)) = hs) : L = hs.map (fun q => ⟨q.1, q.2.1, q.2.2.1, q.2.2.2⟩) := by
  subst h
  rw [List.map_map]
  exact (List.map_id L).symm
theorem xC.ofH {l : Launch} {cl : List vw_C} {y : MethodName} {ws ws' : List Cond} {rm : Room} {As : List Value} {nx : Nat} {M : xH} {post : xO → Nat → xH → Prop} {cc : ByteArray} {maxL : Nat} {ret : Option FieldType} {hs : List (Nat × Nat × Nat × Nat)} (hy : plainName y.cls = true) (hw : ws = Cond.codeWith y cc maxL ret hs :: ws') (hlen : (lg_sl As).length ≤ maxL)
    (body : ∀ (p : Program) (e : Env) (s : State) (m : MethodId) (args : Array Value) (below : List Frame) (meth : Method) (c : Code) (D : va_G), xF p s m args meth c D cl (x_A M nx) cc maxL y.cls ws → meth.sig.returnType = ret → c.exceptionTable.toList = hs.map (fun q => ⟨q.1, q.2.1, q.2.2.1, q.2.2.2⟩) →
      xW p l e rm s m args below meth c D cl (x_A M nx) maxL (MQ below (x_Q D cl (x_A M nx) post) args s rm.cells rm.slots (x_A M nx)) 0 0 nx M 0 (lv_args 0 As) []) : xC l cl y ws rm As nx M post := by
  intro D
  refine MetFree.of_bodyS (code := cc) (maxLocals := maxL) (ret := ret) hy ?_ ?_
  · intro args s m h hn
    obtain ⟨m', meth, c, hn', h1, h2, h3, h4, h5, h6, h7, -⟩ := Cond.codeWith_spec (atoms_spec (ws := ws) h _ (by rw [hw]; exact List.mem_cons_self))
    cases hn.symm.trans hn'
    exact ⟨meth, c, h1, h2, h3, h4, h6, h7⟩
  · intro p e s m args below meth c s₁ B hml hv _
    obtain ⟨rfl, hsz, hK, hR, hE⟩ := hv
    have hts := atoms_spec (ws := ws) B.pre
    have hown : s.vm.findClass y.cls = some m.cls := findClass_of_methodNamed B.named
    have htab : c.exceptionTable.toList = hs.map (fun q => ⟨q.1, q.2.1, q.2.2.1, q.2.2.2⟩) := by
      obtain ⟨m', meth', c', hn', h1, h2, h3, h4, h5, -⟩ := Cond.codeWith_spec (hts _ (by rw [hw]; exact List.mem_cons_self))
      cases B.named.symm.trans hn'
      cases B.method.symm.trans h1
      cases (Stand.of_body B).code.symm.trans h2
      exact x_tab h5
    have K := body p e s m As.toArray below meth c D ⟨⟨B.exec, B.bytes, hml, hown, hts⟩, hK, fun q h => Or.inr (by omega), B.notSynchronized, hE⟩ B.returns htab
    have hh0 : s₁.heap = s.heap := by rw [B.state]; rfl
    have K2 : W p l e rm s m As.toArray below meth c s.heap [] 0 0 (MQ below (x_Q D cl (x_A M nx) post) As.toArray s rm.cells rm.slots (x_A M nx)) (entryFrame m As.toArray maxL) := by
      rw [lg_entry_eq]
      exact K s.heap [] _ hsz va_S.rf (fun a e ha => ⟨(hR a e ha).1, Or.inl ⟨e, ha⟩⟩) (lv_entry As hlen)
    obtain ⟨t, a1, o, b1, b2, b3⟩ := K2 s₁ hh0 (Stand.of_body B)
    exact ⟨t, o, a1, b1, b2, ⟨b3.1, b3.2⟩⟩
section XCA
variable {p : Program} {l : Launch} {e : Env} {R : Room} {s : State} {m : MethodId} {args : Array Value} {below : List Frame} {meth : Method} {c : Code} {D : va_G} {cl : List vw_C} {A : Nat → Prop} {nL : Nat} {Q : State → Prop} {cells slots nx : Nat} {M : xH} {pc : Nat} {lv : List (Nat × Value)} {st : List Value}
variable {cc : ByteArray} {own : String} {Ts : List Cond}
/-- a call whose callee throws what is caught here -/
theorem x_invVC (F : xF p s m args meth c D cl A cc nL own Ts) {y : MethodName} {bytes : ByteArray} {maxL index n : Nat} {ret : Option FieldType} {ws ws' : List Cond} {rm : Room} {As stk : List Value} {C : String} {T0 : u_T} {N ci a : Nat} {fs : List Value} {E K : String} {post0 : Nat → xH → Prop}
    (hG : GoodIn Ts (wsV own index C y ws)) (hw : ws = Cond.code y bytes maxL ret :: ws') (hd : y.cls = C ∧ y.cls ≠ "java/lang/invoke/MethodHandle" ∧ y.cls ≠ "java/lang/invoke/VarHandle" ∧ (parseMethodDescriptor y.desc).map (fun d => d.parameters.length) = some n) (hc : cl[ci]? = some (C, T0, N)) (hdg : decode cc pc = .ok (.invokevirtual index, 3)) (hRm : rm.frames + 1 ≤ R.frames ∧ 8 + (maxL + 11) + rm.locals ≤ R.locals)
    (hM : xT_ l cl y ws rm (.ref a :: As) nx M E post0) (he : M a = some (.inr (ci, fs))) (hn : As.length = n) (hstk : stk = As.reverse ++ .ref a :: st) (hst8 : (st.map fun v => v.category).sum ≤ 8) (hf : cells + rm.cells ≤ R.cells ∧ slots + rm.slots ≤ R.slots)
    (pre : List ExceptionTableEntry) (x0 : ExceptionTableEntry) (rest : List ExceptionTableEntry) (hsplit : c.exceptionTable.toList = pre ++ x0 :: rest) (hcov : covers x0 pc = true) (h0 : x0.catchType ≠ 0) (hlE : Cond.classLink own x0.catchType K ∈ Ts) (hcast : (Cond.castable E K).before args s = true)
    (hpass : ∀ z ∈ pre, z.catchType ≠ 0 ∧ ∃ nm, Cond.classLink own z.catchType nm ∈ Ts ∧ (Cond.not (.castable E nm)).before args s = true)
    (kk : ∀ (x : Nat) (n' : Nat) (M' : xH), post0 n' M' → xW p l e R s m args below meth c D cl A nL Q (cells + rm.cells) (slots + rm.slots) n' M' x0.handlerPc lv [.ref x]) :
    xW p l e R s m args below meth c D cl A nL Q cells slots nx M pc lv stk := by
  intro H locs ls hz hS hR hl T hT X
  subst hstk
  obtain ⟨⟨-, -, -, -, hws, hcw, hcode, hini, hy, hlen, hlk⟩, hin, hse⟩ := cwV (R := R) n F.1.2.2.2.2 hG hw (rfl : rm.cells = rm.cells) rfl hd hRm
  obtain ⟨cellB, hcB, hoB, hclB⟩ := va_recv F.2.1 (x_one (q := (a, .inr (ci, fs))) (hR a _ he).1) (q0 := 0) hc rfl
  obtain ⟨mk, methM, hnamed, hmethM, hstM, habM⟩ := Cond.instanceMethod_spec hin
  obtain ⟨methM', cM, hmethM', -, -, -, -, -, -, hsigM⟩ := Cond.code_spec hnamed hcode
  cases hmethM.symm.trans hmethM'
  obtain ⟨c2, r2, m2, q1, q2, q3, q4, kP, hkP, hkPi⟩ := Cond.selects_spec hse
  cases hclB.symm.trans q1
  cases (State.methodFound?_of_named hnamed hy).symm.trans q2
  cases hnamed.symm.trans q3
  have hselP : selectMethod e.platform s.vm cellB.cls mk = .method mk := by rw [Launch.admits_selectMethod X.admits]; exact q4
  obtain ⟨vm₁, X₁, hstep₁⟩ := X.invokevirtual F.1.1 F.1.2.2.2.1 hlk hnamed hmethM hstM hkP hkPi hy (a := a) (cell := cellB) (by rw [hT]; exact hcB)
    (fun z h => by rw [h] at hoB; cases hoB) hselP hmethM habM hkP hkPi (g := F0 m pc ls (As.reverse ++ .ref a :: st)) rfl (argsL := As) (rest := st) (hn.trans (hlen _ hsigM)) rfl (by rw [F.1.2.1]; exact hdg)
  have hml : (F0 m pc ls st).locals.size = c.maxLocals := by rw [F.1.2.2.1]; exact hl.1
  obtain ⟨o, s₂, hsteps, hend, hq⟩ := x_go X₁ (g := F0 m pc ls st) rfl hml (by rw [F.1.2.1]; exact hdg) (lv_room hst8) (X₁.named hnamed) (hM D) (fun w hw2 => hws w hw2 _ _ X₁.warmed) hcw (word_at X₁.warmed (Or.inl (by first | rfl | simp [Cond.onTables, Cond.keeps, Cond.steady])) hini) hRm.1 hRm.2 hf.1 hf.2
    (x_blind _ _ _ _ (x_pre F (As := .ref a :: As) hz hS hR (T.setVm vm₁) hT X₁.warmed))
  obtain ⟨x, ce, T', locs', nx', M', X', b1, b2, b3, b4, b5, b6, b7, rfl⟩ := x_outT F (T := T.setVm vm₁) hT hz hS hR X₁ (g := F0 m pc ls st) rfl hend hq
  obtain ⟨c3, cT, hc3, hcT, hasg⟩ := Cond.castable_spec hcast
  cases b3.symm.trans hc3
  obtain ⟨hend2, hk0⟩ := X'.catches_of_link F.1.2.2.2.1 h0 (F.1.2.2.2.2 _ hlE) hcT hasg
  have hpl : e.platform.magicAccessors = ({} : Platform).magicAccessors := by rw [X'.admits.platform]
  obtain ⟨vm', XV, stV⟩ := X'.caughtThrough x (g := F0 m pc ls st) rfl b1 (by rw [b2]; rfl) hk0 pre x0 rest hsplit (fun z hz => by
    obtain ⟨z0, nm, z1, z2⟩ := hpass z hz
    exact RowPassed.of_words hpl F.1.2.2.2.1 z0 (F.1.2.2.2.2 _ z1) b3 z2) hcov hend2
  obtain ⟨t, c1, c2⟩ := kk x nx' M' b4 T'.heap locs' ls b5 b7 b6 hl (T'.setVm vm') rfl XV
  refine ⟨t, hstep₁ _ fun acts => ?_, c2⟩
  rw [doInvoke_state]
  refine hsteps.trans ?_
  rw [X'.pushThrowing_eq]
  exact stV t c1
theorem x_noA {a b : String} {args' : Array Value} {u : State} (h : va_Nw (.not (.castable a b)) u) : (Cond.not (.castable a b)).before args' u = true := by
  have hv := Cond.holds_not_iff.mp h
  refine Cond.holds_not_iff.mpr ?_
  simp only [Cond.value] at hv ⊢
  exact hv
/-- a call, from its making on, to its end: of a method with handlers -/
theorem x_goH {T : State} {locs : List Loc} (X : Stand p l e R s m args below meth c T locs cells slots) {g : JFrame} (hg : g.method = m) (hsize : g.locals.size = c.maxLocals) {ig : Instr} {len : Nat} (hdg : decode c.code g.pc = .ok (ig, len)) (hW : 2 * g.monitorRoom + (g.stack.map fun v => v.category).sum ≤ 8)
    {mk : MethodId} {a : Array Value} {y : MethodName} {bytes : ByteArray} {maxL : Nat} {ret : Option FieldType} {hs : List (Nat × Nat × Nat × Nat)} {ws : List Cond} {rm : Room} {P : Array Value → State → Prop} {Qm : Array Value → State → Outcome → State → Prop} (hn : T.methodNamed? y = some mk) (hM : MetFree l y (headSpec ws rm) P (fun _ _ _ _ _ => True) Qm)
    (hws : ∀ w ∈ ws, w.before a T = true) (hcode : Cond.codeWith y bytes maxL ret hs ∈ ws) (hini : (Cond.initialized y.cls).before a T = true) (hfr : rm.frames + 1 ≤ R.frames) (hlo : 8 + (maxL + 11) + rm.locals ≤ R.locals) (hc : cells + rm.cells ≤ R.cells) (hs2 : slots + rm.slots ≤ R.slots) (hP : P a (T.calling g mk a)) :
    ∃ o s₂, Steps p.tables e below (doInvoke e (T.setTop g) [] mk a).1 s₂ ∧ Ended s₂ (.java g :: below) o ∧ Qm a (T.calling g mk a) o s₂ := by
  obtain ⟨mk', methY, cY, hn', hmY, hcY, -, hlY, -, -, -, -⟩ := Cond.codeWith_spec (hws _ hcode)
  cases hn.symm.trans hn'
  obtain ⟨kY, hkY, -⟩ := className_of_methodNamed hn
  have hinitY : kY.init = .initialized := Cond.initialized_spec (findClass_of_methodNamed hn) hkY hini
  have h : At T g.method c below := by rw [hg]; exact X.here
  have happ : (headSpec ws rm).appliesLoose y e.platform (T.calling g mk a) = true :=
    Spec.appliesLoose_calling (g := g) h hdg hn hkY hinitY (X.room_calling (g := g) (R' := rm) hsize hmY hcY hfr (by rw [hlY]; omega) hc hs2) (atoms_intro hws)
  obtain ⟨mid, hmid⟩ := h.above
  have hfrs : (T.setTop g).frames = (.java g :: mid) ++ below := by rw [State.frames_setTop' g h.top, hmid]; rfl
  obtain ⟨o, s₂, hsteps, -, hend, hq⟩ := Steps.callFree hM p X.admits X.cas X.clock (acts := []) hfrs happ hP trivial
  rw [State.frames_setTop' g h.top, X.tail] at hend
  exact ⟨o, s₂, hsteps, hend, hq⟩
theorem x_invSH (F : xF p s m args meth c D cl A cc nL own Ts) {y : MethodName} {bytes : ByteArray} {maxL index n : Nat} {ret : Option FieldType} {hs : List (Nat × Nat × Nat × Nat)} {ws ws' : List Cond} {rm : Room} {As stk : List Value} {post : xO → Nat → xH → Prop}
    (hG : GoodIn Ts (wsS own index y ws)) (hw : ws = Cond.codeWith y bytes maxL ret hs :: ws') (hd : y.cls = own ∧ y.cls ≠ "java/lang/invoke/MethodHandle" ∧ y.cls ≠ "java/lang/invoke/VarHandle" ∧ (parseMethodDescriptor y.desc).map (fun d => d.parameters.length) = some n) (hdg : decode cc pc = .ok (.invokestatic index, 3)) (hRm : rm.frames + 1 ≤ R.frames ∧ 8 + (maxL + 11) + rm.locals ≤ R.locals)
    (hM : xC l cl y ws rm As nx M post) (hn : As.length = n) (hstk : stk = As.reverse ++ st) (hst8 : (st.map fun v => v.category).sum ≤ 8) (hf : cells + rm.cells ≤ R.cells ∧ slots + rm.slots ≤ R.slots)
    (kk : ∀ (r : Option Value) (nx' : Nat) (M' : xH), post r nx' M' → xW p l e R s m args below meth c D cl A nL Q (cells + rm.cells) (slots + rm.slots) nx' M' (pc + 3) lv (r.toList ++ st)) :
    xW p l e R s m args below meth c D cl A nL Q cells slots nx M pc lv stk := by
  intro H locs ls hz hS hR hl T hT X
  subst hstk
  obtain ⟨hC, hd1, hd2, hd3⟩ := hd
  have ok : ∀ w ∈ wsS own index y ws, w.before args s = true := fun w h => F.1.2.2.2.2 w (hG w h).1
  have hmem : Cond.codeWith y bytes maxL ret hs ∈ ws := by rw [hw]; exact List.mem_cons_self
  have hcode : (Cond.codeWith y bytes maxL ret hs).before args s = true := ok _ (by unfold wsS; exact List.mem_append_right _ hmem)
  have hws : ∀ w ∈ ws, ∀ (a' : Array Value) (U : State), s.WarmedH U.vm → w.before a' U = true := fun w h a' U hWu => word_at hWu (hG w (by unfold wsS; exact List.mem_append_right _ h)).2 (ok _ (by unfold wsS; exact List.mem_append_right _ h))
  have hini : (Cond.initialized y.cls).before args s = true := by rw [hC]; exact ok _ (by simp [wsS])
  have hlk : (Cond.methodLink own index y).before args s = true := ok _ (by simp [wsS])
  have hstt : (Cond.static y).before args s = true := ok _ (by simp [wsS])
  obtain ⟨mk, methM, cM, hnamed, hmethM, -, -, -, -, -, -, hsigM⟩ := Cond.codeWith_spec hcode
  have hstatic : methM.isStatic = true := Cond.static_spec hnamed hmethM hstt
  obtain ⟨kP, hkP, -⟩ := className_of_methodNamed hnamed
  have hinitP : kP.init = .initialized := Cond.initialized_spec (findClass_of_methodNamed hnamed) hkP hini
  have hlen : n = methM.sig.parameters.length := by rw [hsigM] at hd3; exact (Option.some.inj hd3).symm
  obtain ⟨vm₁, X₁, hstep₁⟩ := X.invokestatic F.1.1 F.1.2.2.2.1 hlk hnamed hmethM hstatic hkP hinitP ⟨hd1, hd2⟩ (g := F0 m pc ls (As.reverse ++ st)) rfl (argsL := As) (rest := st) (hn.trans hlen) rfl (by rw [F.1.2.1]; exact hdg)
  have hml : (F0 m pc ls st).locals.size = c.maxLocals := by rw [F.1.2.2.1]; exact hl.1
  obtain ⟨o, s₂, hsteps, hend, hq⟩ := x_goH X₁ (g := F0 m pc ls st) rfl hml (by rw [F.1.2.1]; exact hdg) (lv_room hst8) (X₁.named hnamed) (hM D) (fun w hw2 => hws w hw2 _ _ X₁.warmed) hmem (word_at X₁.warmed (Or.inl (by first | rfl | simp [Cond.onTables, Cond.keeps, Cond.steady])) hini) hRm.1 hRm.2 hf.1 hf.2
    (x_blind _ _ _ _ (x_pre F (As := As) hz hS hR (T.setVm vm₁) hT X₁.warmed))
  obtain ⟨⟨⟨o1, n', M', rfl, q4, q5, q6⟩, qf⟩, L, ⟨-, hW2, hsame⟩, hL⟩ := hq
  obtain ⟨T', X', hW', -, ht⟩ := X₁.outOf (g := F0 m pc ls st) rfl (by rw [F.1.2.1]; exact hdg) hend hW2 hsame
  have hvm : s₂.vm = T'.vm := by rw [ht]; simp [State.setTop, State.modifyTopJava, State.setFrames]
  have hhp : s₂.heap = T'.heap := by rw [ht]; simp [State.setTop, State.modifyTopJava, State.setFrames]
  have hal : s.vm.Alike s₂.vm := by rw [hvm]; exact X'.warmed.alike
  have hA1 := x_sub F hz hS hR
  have h1 : H.size ≤ s₂.heap.size := by have h : T.heap.size ≤ s₂.heap.size := qf.1; rw [hT] at h; exact h
  have h2 : ∀ q : Nat, q < H.size → ¬ x_A M nx q → s₂.heap[q]? = H[q]? := fun q hq hn => by
    have h : s₂.heap[q]? = T.heap[q]? := qf.2 q (by show q < T.heap.size; rw [hT]; exact hq) hn
    rw [hT] at h; exact h
  obtain ⟨t, c1, c2⟩ := kk o1 n' M' q4 T'.heap (locs ++ L) ls (by rw [← hhp]; exact q5) (by
    rw [← hhp]
    exact ⟨Nat.le_trans hS.1 h1, fun q g1 g2 => (h2 q (Nat.lt_of_lt_of_le g1 hS.1) (fun z => g2 (hA1 q z))).trans (hS.2.1 q g1 g2), fun q hq => by
      rcases List.mem_append.mp hq with h | h
      · exact hS.2.2 q h
      · exact hA1 _ (hL q h)⟩) (by rw [← hhp]; exact (q6.moved hal.symm).weaken (fun q _ _ h => hA1 q h)) hl T' rfl X'
  refine ⟨t, hstep₁ _ fun acts => ?_, c2⟩
  rw [doInvoke_state]
  refine hsteps.trans ?_
  rw [ht]
  exact c1
end XCA
