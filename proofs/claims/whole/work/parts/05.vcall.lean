/-! CONTRACTS: the answer (or the name of the class of what is thrown), the cells behind it, the world behind it -/
abbrev xO : Type := Option Value
def x_Q (D : va_G) (cl : List vw_C) (A : Nat → Prop) (post : xO → Nat → xH → Prop) : Array Value → State → Outcome → State → Prop := fun _ st oc t =>
  (∃ (o : xO) (nx : Nat) (M : xH), oc = .returned o ∧ post o nx M ∧ t.heap.size = nx ∧ x_R D cl t A M t.heap) ∧ va_F A st t
def x_Pc (D : va_G) (cl : List vw_C) (As : List Value) (nx : Nat) (M : xH) : Array Value → State → Prop := va_Pc As (fun U => U.heap.size = nx ∧ va_K D cl [] U ∧ x_R D cl U (fun _ => True) M U.heap ∧ x_E (x_A M nx) U U.heap)
def xC (l : Launch) (cl : List vw_C) (y : MethodName) (ws : List Cond) (rm : Room) (As : List Value) (nx : Nat) (M : xH) (post : xO → Nat → xH → Prop) : Prop :=
  ∀ D : va_G, Met l y ws rm (x_Pc D cl As nx M) (x_Q D cl (x_A M nx) post) rm.cells rm.slots (x_A M nx)
theorem x_blind {D : va_G} {cl : List vw_C} {As : List Value} {nx : Nat} {M : xH} : FrameBlind (x_Pc D cl As nx M) := fun a U g mk q => by
  obtain ⟨q0, q1, q2, q3, q4⟩ := q
  exact ⟨q0, q1, va_K.moved (u := U) (U := U.calling g mk a) (Vm.Alike.refl U.vm) q2, x_R.moved (u := U) (U := U.calling g mk a) (Vm.Alike.refl U.vm) q3, x_E.same (s := U) (U := U.calling g mk a) q4 rfl⟩
theorem x_sub {p : Program} {s : State} {m : MethodId} {args : Array Value} {meth : Method} {c : Code} {D : va_G} {cl : List vw_C} {A : Nat → Prop} {cc : ByteArray} {nL : Nat} {own : String} {Ts : List Cond} (F : xF p s m args meth c D cl A cc nL own Ts) {nx : Nat} {M : xH} {H : Heap} {locs : List Loc} (hz : H.size = nx) (hS : va_S A s.heap H locs) (hR : x_R D cl s A M H) : ∀ q, x_A M nx q → A q := fun q h => by
  rcases h with ⟨f, h⟩ | h
  · exact (hR q f h).2
  · exact F.2.2.1 q (Nat.le_trans hS.1 (by omega))
theorem x_pre {p : Program} {s : State} {m : MethodId} {args : Array Value} {meth : Method} {c : Code} {D : va_G} {cl : List vw_C} {A : Nat → Prop} {cc : ByteArray} {nL : Nat} {own : String} {Ts : List Cond} (F : xF p s m args meth c D cl A cc nL own Ts) {As : List Value} {nx : Nat} {M : xH} {H : Heap} {locs : List Loc} (hz : H.size = nx) (hS : va_S A s.heap H locs) (hR : x_R D cl s A M H) : ∀ U : State, U.heap = H → s.WarmedH U.vm → x_Pc D cl As nx M As.toArray U := fun U hU hW =>
  ⟨rfl, by rw [hU]; exact hz, va_K.moved hW.alike F.2.1, by rw [hU]; exact (hR.moved hW.alike).weaken (fun _ _ _ _ => trivial), by rw [hU]; exact F.2.2.2.2.step hW hS.2.1 (x_sub F hz hS hR)⟩
theorem xC.of {l : Launch} {cl : List vw_C} {y : MethodName} {ws ws' : List Cond} {rm : Room} {As : List Value} {nx : Nat} {M : xH} {post : xO → Nat → xH → Prop} {cc : ByteArray} {maxL : Nat} {ret : Option FieldType} (hy : plainName y.cls = true) (hw : ws = Cond.code y cc maxL ret :: ws') (hlen : (lg_sl As).length ≤ maxL)
    (body : ∀ (p : Program) (e : Env) (s : State) (m : MethodId) (args : Array Value) (below : List Frame) (meth : Method) (c : Code) (D : va_G), xF p s m args meth c D cl (x_A M nx) cc maxL y.cls ws → meth.sig.returnType = ret → meth.name = y.name →
      xW p l e rm s m args below meth c D cl (x_A M nx) maxL (MQ below (x_Q D cl (x_A M nx) post) args s rm.cells rm.slots (x_A M nx)) 0 0 nx M 0 (lv_args 0 As) []) : xC l cl y ws rm As nx M post := by
  intro D
  refine Met.ofW hy hw ?_
  intro p e s m args below meth c s₁ B hml hv
  obtain ⟨rfl, hsz, hK, hR, hE⟩ := hv
  have hts := atoms_spec (ws := ws) B.pre
  have hown : s.vm.findClass y.cls = some m.cls := findClass_of_methodNamed B.named
  have K := body p e s m As.toArray below meth c D ⟨⟨B.exec, B.bytes, hml, hown, hts⟩, hK, fun q h => Or.inr (by omega), B.notSynchronized, hE⟩ B.returns (name_of_methodNamed B.named B.method).1
  rw [lg_entry_eq]
  exact K s.heap [] _ hsz va_S.rf (fun a e ha => ⟨(hR a e ha).1, Or.inl ⟨e, ha⟩⟩) (lv_entry As hlen)
section XC
variable {p : Program} {l : Launch} {e : Env} {R : Room} {s : State} {m : MethodId} {args : Array Value} {below : List Frame} {meth : Method} {c : Code} {D : va_G} {cl : List vw_C} {A : Nat → Prop} {nL : Nat} {Q : State → Prop} {cells slots nx : Nat} {M : xH} {pc : Nat} {lv : List (Nat × Value)} {st : List Value}
variable {cc : ByteArray} {own : String} {Ts : List Cond}
variable {post : xO → Nat → xH → Prop}
theorem x_iret (F : xF p s m args meth c D cl A cc nL own Ts) {v : Int32} (hr : meth.sig.returnType = some .int) (hdg : decode cc pc = .ok (.ireturn, 1)) (hp : post (some (.int v)) nx M) : xW p l e R s m args below meth c D cl A nL (MQ below (x_Q D cl A post) args s cells slots A) cells slots nx M pc lv [.int v] :=
  fun H locs ls hz hS hR hl => W.iret F.1.1 F.1.2.1 hr (fun t ht hW => ⟨⟨_, _, _, rfl, hp, by rw [ht]; exact hz, by rw [ht]; exact hR.moved hW.alike⟩, hS.F ht⟩) hS.2.2 hdg F.2.2.2.1
theorem x_zret (F : xF p s m args meth c D cl A cc nL own Ts) {v : Int32} {ty : FieldType} (hr : meth.sig.returnType = some ty) (hn : narrow ty (.int v) = .int v) (hdg : decode cc pc = .ok (.ireturn, 1)) (hp : post (some (.int v)) nx M) : xW p l e R s m args below meth c D cl A nL (MQ below (x_Q D cl A post) args s cells slots A) cells slots nx M pc lv [.int v] :=
  fun H locs ls hz hS hR hl => W.zret F.1.1 F.1.2.1 hr hn (fun t ht hW => ⟨⟨_, _, _, rfl, hp, by rw [ht]; exact hz, by rw [ht]; exact hR.moved hW.alike⟩, hS.F ht⟩) hS.2.2 hdg F.2.2.2.1
theorem x_lret (F : xF p s m args meth c D cl A cc nL own Ts) {v : Int64} (hr : meth.sig.returnType = some .long) (hdg : decode cc pc = .ok (.lreturn, 1)) (hp : post (some (.long v)) nx M) : xW p l e R s m args below meth c D cl A nL (MQ below (x_Q D cl A post) args s cells slots A) cells slots nx M pc lv [.long v] :=
  fun H locs ls hz hS hR hl => W.lret F.1.1 F.1.2.1 hr (fun t ht hW => ⟨⟨_, _, _, rfl, hp, by rw [ht]; exact hz, by rw [ht]; exact hR.moved hW.alike⟩, hS.F ht⟩) hS.2.2 hdg F.2.2.2.1
theorem x_vret (F : xF p s m args meth c D cl A cc nL own Ts) (hr : meth.sig.returnType = none) (hdg : decode cc pc = .ok (.return_, 1)) (hp : post none nx M) : xW p l e R s m args below meth c D cl A nL (MQ below (x_Q D cl A post) args s cells slots A) cells slots nx M pc lv [] :=
  fun H locs ls hz hS hR hl => W.vret F.1.1 F.1.2.1 hr (fun t ht hW => ⟨⟨_, _, _, rfl, hp, by rw [ht]; exact hz, by rw [ht]; exact hR.moved hW.alike⟩, hS.F ht⟩) hS.2.2 hdg F.2.2.2.1
theorem x_aret (F : xF p s m args meth c D cl A cc nL own Ts) {v : Value} {rt : FieldType} (hr : meth.sig.returnType = some rt) (hrt : (∃ n, rt = .object n) ∨ ∃ t, rt = .array t) (hv : v = .null ∨ ∃ a, v = .ref a) (hdg : decode cc pc = .ok (.areturn, 1)) (hp : post (some v) nx M) : xW p l e R s m args below meth c D cl A nL (MQ below (x_Q D cl A post) args s cells slots A) cells slots nx M pc lv [v] :=
  fun H locs ls hz hS hR hl => W.aret F.1.1 F.1.2.1 hr hrt hv (fun t ht hW => ⟨⟨_, _, _, rfl, hp, by rw [ht]; exact hz, by rw [ht]; exact hR.moved hW.alike⟩, hS.F ht⟩) hS.2.2 hdg F.2.2.2.1
theorem x_objInit (F : xF p s m args meth c D cl A cc nL own Ts) {idx a : Nat} (hlink : Cond.methodLink own idx Lib.objectInit ∈ Ts) (hinst : Cond.instanceMethod Lib.objectInit ∈ Ts) (hcode : Cond.code Lib.objectInit ⟨#[0xb1]⟩ 1 none ∈ Ts) (hdg : decode cc pc = .ok (.invokespecial idx, 3)) (hframes : 1 ≤ R.frames) (hlocals : (st.map fun v => v.category).sum + 12 ≤ R.locals) (k : xW p l e R s m args below meth c D cl A nL Q cells slots nx M (pc + 3) lv st) : xW p l e R s m args below meth c D cl A nL Q cells slots nx M pc lv (.ref a :: st) :=
  fun H locs ls hz hS hR hl => W.objInit F.1.1 F.1.2.1 F.1.2.2.2.1 (F.1.2.2.2.2 _ hlink) (F.1.2.2.2.2 _ hinst) (F.1.2.2.2.2 _ hcode) rfl (by rw [F.1.2.2.1]; exact hl.1) rfl hdg hframes (by show 2 * 0 + _ + 12 ≤ _; omega) (k H locs ls hz hS hR hl)
theorem x_back (F : xF p s m args meth c D cl A cc nL own Ts) {mc ms : Nat} {st0 rest : List Value} {a : Array Value} {H : Heap} {locs : List Loc} {ls : Array Slot} (hz : H.size = nx) (hS : va_S A s.heap H locs) (hR : x_R D cl s A M H) (hl : lv_has ls nL lv) (hr : va_Run p l e R s m args below meth c H locs cells slots mc ms (F0 m pc ls st0) rest (x_Q D cl (x_A M nx) post a) (x_A M nx))
    (kk : ∀ (r : Option Value) (nx' : Nat) (M' : xH), post r nx' M' → xW p l e R s m args below meth c D cl A nL Q (cells + mc) (slots + ms) nx' M' (pc + 3) lv (r.toList ++ rest)) : W p l e R s m args below meth c H locs cells slots Q (F0 m pc ls st0) := by
  intro T hT X
  obtain ⟨v, st₀, t, T', L, h0, X', hL, e1, e2, ⟨⟨o, nx', M', ho, hp, hz1, hR1⟩, hzz, hk⟩, stp⟩ := hr T hT X
  have hA1 : ∀ q, x_A M nx q → A q := x_sub F hz hS hR
  cases ho
  rw [h0] at hzz hk
  obtain ⟨t2, a1, b1⟩ := kk v nx' M' hp T'.heap (locs ++ L) ls (by rw [e1]; exact hz1)
    ⟨Nat.le_trans hS.1 (by rw [e1]; exact hzz), fun q h1 h2 => by rw [e1, hk q (Nat.lt_of_lt_of_le h1 hS.1) (fun z => h2 (hA1 q z))]; exact hS.2.1 q h1 h2, fun q hq => by
      rcases List.mem_append.mp hq with h | h
      · exact hS.2.2 q h
      · exact hA1 _ (hL q h)⟩
    (by rw [e1]; exact (hR1.moved (by rw [← e2]; exact X'.warmed.alike.symm)).weaken (fun q _ _ h => hA1 q h)) hl T' rfl X'
  exact ⟨t2, stp t2 a1, b1⟩
theorem x_invV (F : xF p s m args meth c D cl A cc nL own Ts) {y : MethodName} {bytes : ByteArray} {maxL index n : Nat} {ret : Option FieldType} {ws ws' : List Cond} {rm : Room} {As stk : List Value} {C : String} {T : u_T} {N ci a : Nat} {fs : List Value} (hG : GoodIn Ts (wsV own index C y ws)) (hw : ws = Cond.code y bytes maxL ret :: ws') (hd : y.cls = C ∧ y.cls ≠ "java/lang/invoke/MethodHandle" ∧ y.cls ≠ "java/lang/invoke/VarHandle" ∧ (parseMethodDescriptor y.desc).map (fun d => d.parameters.length) = some n) (hc : cl[ci]? = some (C, T, N)) (hdg : decode cc pc = .ok (.invokevirtual index, 3)) (hRm : rm.frames + 1 ≤ R.frames ∧ 8 + (maxL + 11) + rm.locals ≤ R.locals) (hM : xC l cl y ws rm (.ref a :: As) nx M post) (he : M a = some (.inr (ci, fs))) (hn : As.length = n) (hstk : stk = As.reverse ++ .ref a :: st) (hst8 : (st.map fun v => v.category).sum ≤ 8) (hf : cells + rm.cells ≤ R.cells ∧ slots + rm.slots ≤ R.slots) (kk : ∀ (r : Option Value) (nx' : Nat) (M' : xH), post r nx' M' → xW p l e R s m args below meth c D cl A nL Q (cells + rm.cells) (slots + rm.slots) nx' M' (pc + 3) lv (r.toList ++ st)) : xW p l e R s m args below meth c D cl A nL Q cells slots nx M pc lv stk := by
  intro H locs ls hz hS hR hl
  subst hstk
  exact x_back F hz hS hR hl (va_runV (As := As) (rest := st) F.1 (hM D) (cwV n F.1.2.2.2.2 hG hw rfl rfl hd hRm) ⟨x_blind, va_recv F.2.1 (x_one (q := (a, .inr (ci, fs))) (hR a _ he).1) (q0 := 0) hc rfl, x_pre F hz hS hR⟩ rfl hn hl.1 rfl (lv_room hst8) hdg hf) kk
theorem x_invS (F : xF p s m args meth c D cl A cc nL own Ts) {y : MethodName} {bytes : ByteArray} {maxL index n : Nat} {ret : Option FieldType} {ws ws' : List Cond} {rm : Room} {As stk : List Value} (hG : GoodIn Ts (wsS own index y ws)) (hw : ws = Cond.code y bytes maxL ret :: ws') (hd : y.cls = own ∧ y.cls ≠ "java/lang/invoke/MethodHandle" ∧ y.cls ≠ "java/lang/invoke/VarHandle" ∧ (parseMethodDescriptor y.desc).map (fun d => d.parameters.length) = some n) (hdg : decode cc pc = .ok (.invokestatic index, 3)) (hRm : rm.frames + 1 ≤ R.frames ∧ 8 + (maxL + 11) + rm.locals ≤ R.locals) (hM : xC l cl y ws rm As nx M post) (hn : As.length = n) (hstk : stk = As.reverse ++ st) (hst8 : (st.map fun v => v.category).sum ≤ 8) (hf : cells + rm.cells ≤ R.cells ∧ slots + rm.slots ≤ R.slots) (kk : ∀ (r : Option Value) (nx' : Nat) (M' : xH), post r nx' M' → xW p l e R s m args below meth c D cl A nL Q (cells + rm.cells) (slots + rm.slots) nx' M' (pc + 3) lv (r.toList ++ st)) : xW p l e R s m args below meth c D cl A nL Q cells slots nx M pc lv stk := by
  intro H locs ls hz hS hR hl
  subst hstk
  exact x_back F hz hS hR hl (va_runS (As := As) (rest := st) F.1 (hM D) (cwS n F.1.2.2.2.2 hG hw rfl rfl hd hRm) ⟨x_blind, x_pre F hz hS hR⟩ rfl hn hl.1 rfl (lv_room hst8) hdg hf) kk
theorem x_invI (F : xF p s m args meth c D cl A cc nL own Ts) {y : MethodName} {bytes : ByteArray} {maxL index n : Nat} {ret : Option FieldType} {ws ws' : List Cond} {rm : Room} {As stk : List Value} {a : Nat} (hG : GoodIn Ts ws) (hw : ws = Cond.code y bytes maxL none :: ws') (hini : Cond.initialized y.cls ∈ Ts) (hli : Cond.methodLink own index y ∈ Ts) (him : Cond.instanceMethod y ∈ Ts) (hy : y.name = "<init>") (hd : y.cls ≠ "java/lang/invoke/MethodHandle" ∧ y.cls ≠ "java/lang/invoke/VarHandle" ∧ (parseMethodDescriptor y.desc).map (fun d => d.parameters.length) = some n) (hdg : decode cc pc = .ok (.invokespecial index, 3)) (hRm : rm.frames + 1 ≤ R.frames ∧ 8 + (maxL + 11) + rm.locals ≤ R.locals) (hM : xC l cl y ws rm (.ref a :: As) nx M post) (hn : As.length = n) (hstk : stk = As.reverse ++ .ref a :: st) (hst8 : (st.map fun v => v.category).sum ≤ 8) (hf : cells + rm.cells ≤ R.cells ∧ slots + rm.slots ≤ R.slots) (kk : ∀ (r : Option Value) (nx' : Nat) (M' : xH), post r nx' M' → xW p l e R s m args below meth c D cl A nL Q (cells + rm.cells) (slots + rm.slots) nx' M' (pc + 3) lv (r.toList ++ st)) : xW p l e R s m args below meth c D cl A nL Q cells slots nx M pc lv stk := by
  intro H locs ls hz hS hR hl
  subst hstk
  exact x_back F hz hS hR hl (va_runI (As := As) (rest := st) F.1 (hM D) (cwI n F.1.2.2.2.2 hG hw rfl rfl (F.1.2.2.2.2 _ hini) (F.1.2.2.2.2 _ hli) (F.1.2.2.2.2 _ him) hy hd hRm) ⟨x_blind, x_pre F hz hS hR⟩ rfl hn hl.1 rfl (lv_room hst8) hdg hf) kk
end XC
