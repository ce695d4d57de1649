/-! the atoms of a throw out of the table and of x_E -/
abbrev x_RE : List String := ["java/lang/RuntimeException", "java/lang/Exception"]
def x_sp : List Cond := [Cond.castable "java/lang/IllegalStateException" "java/lang/IllegalStateException", Cond.castable "java/lang/IndexOutOfBoundsException" "java/lang/IndexOutOfBoundsException", Cond.castable "java/lang/IllegalArgumentException" "java/lang/IllegalArgumentException",
  Cond.declares ⟨"java/lang/RuntimeException", "<init>", "(Ljava/lang/String;)V"⟩, Cond.declares ⟨"java/lang/Exception", "<init>", "(Ljava/lang/String;)V"⟩, Cond.declares ⟨"java/lang/Throwable", "<init>", "(Ljava/lang/String;)V"⟩]
def x_ok (a : Cond) : Bool := (decide (a ∈ tables_1) && goodWord a) || decide (a ∈ x_sp) || decide (a ∈ [Cond.laysStatic x_TN "UNASSIGNED_STACK" x_UD, Cond.laysStatic x_TN "SUPPRESSED_SENTINEL" x_LD, Cond.isRef (.static x_TN "UNASSIGNED_STACK" x_UD), Cond.isRef (.static x_TN "SUPPRESSED_SENTINEL" x_LD)])
theorem x_ok1 : (Bundle.ownAtoms "GoodsTree" 66 "java/lang/IllegalStateException" x_RE).all x_ok = true := by decide +kernel
theorem x_ok2 : (Bundle.ownAtoms "GoodsTree" 95 "java/lang/IndexOutOfBoundsException" x_RE).all x_ok = true := by decide +kernel
theorem x_ok3 : (Bundle.ownAtoms "GoodsTree" 127 "java/lang/IllegalArgumentException" x_RE).all x_ok = true := by decide +kernel
theorem x_hat {c0 : Cond} {ic : Nat} {X : String} (hX : (Bundle.ownAtoms "GoodsTree" ic X x_RE).all x_ok = true) (A : Nat → Prop) (args : Array Value) (U : State) (hE : x_E A U U.heap) (hT : ∀ w ∈ xw c0, w.before args U = true) : ∀ a ∈ Bundle.ownAtoms "GoodsTree" ic X x_RE, a.before args U = true := by
  intro a ha
  have h := List.all_eq_true.mp hX a ha
  unfold x_ok at h
  rw [Bool.or_eq_true, Bool.or_eq_true, Bool.and_eq_true, decide_eq_true_eq, decide_eq_true_eq, decide_eq_true_eq] at h
  rcases h with (⟨h1, h2⟩ | h) | h
  · exact hT a (x_m (xT_of (List.mem_append_right _ h1) h2))
  · obtain ⟨⟨-, -, -, e1, e2, e3, -, e4, -, e5, -, e6, -⟩, -⟩ := hE
    simp only [x_sp, List.mem_cons, List.not_mem_nil, or_false] at h
    rcases h with rfl | rfl | rfl | rfl | rfl | rfl
    · exact va_Nw.use rfl e1
    · exact va_Nw.use rfl e2
    · exact va_Nw.use rfl e3
    · exact va_Nw.use rfl e4
    · exact va_Nw.use rfl e5
    · exact va_Nw.use rfl e6
  · obtain ⟨-, -, -, z1, z2⟩ := hE
    simp only [List.mem_cons, List.not_mem_nil, or_false] at h
    rcases h with rfl | rfl | rfl | rfl
    · exact z1.lays args
    · exact z2.lays args
    · exact z1.isRef args
    · exact z2.isRef args
theorem xw_good {c1 : Cond} (h : c1 ∈ xT) : ∀ w ∈ xw c1, (w.onTables && w.keeps) = true ∨ ∃ ty, w = .arrayClass ty := fun w hw => by
  rcases List.mem_cons.mp hw with rfl | hw
  · exact xT_good h
  · exact xT_good hw
/-- the flags under which nothing is traced -/
abbrev x_fl (l : Launch) : Prop := l.flags = pinnedFlags ++ [noTraceFlag]
section XTH
variable {p : Program} {l : Launch} {e : Env} {R : Room} {s : State} {m : MethodId} {args : Array Value} {below : List Frame} {meth : Method} {c : Code} {D : va_G} {A : Nat → Prop} {nL : Nat} {cells slots nx : Nat} {M : xH} {pc : Nat} {lv : List (Nat × Value)} {st : List Value}
variable {cc : ByteArray} {c0 : Cond}
/-- 'throw new X("..")' in GoodsTree -/
theorem yT {post : Nat → xH → Prop} {rc rs ia ib ic : Nat} {X tx : String} (F : xF p s m args meth c D xcl A cc nL "GoodsTree" (xw c0)) (hfl : x_fl l) (hex : c.exceptionTable.isEmpty = true) (hX : (Bundle.ownAtoms "GoodsTree" ic X x_RE).all x_ok = true) (hcl : Cond.classLink "GoodsTree" ia X ∈ xT) (hins : Cond.instantiable X 6 ∈ xT) (hini : Cond.initialized X ∈ xT) (h0 : c0 ∈ xT) (hS : (ib, tx) ∈ x_St) (hfit : Bundle.fit X = true)
    (d0 : decode cc pc = .ok (.new ia, 3)) (d3 : decode cc (pc + 3) = .ok (.dup, 1)) (d4 : decode cc (pc + 3 + 1) = .ok (.ldc ib, 2)) (d6 : decode cc (pc + 3 + 1 + 2) = .ok (.invokespecial ic, 3)) (d9 : decode cc (pc + 3 + 1 + 2 + 3) = .ok (.athrow, 1))
    (hc : cells + 1 ≤ R.cells) (hsl : slots + 6 ≤ R.slots) (hfr : 6 ≤ R.frames) (hlo : ((st.map fun v => v.category).sum + 1) + 81 ≤ R.locals) (hrc : cells + 1 ≤ rc) (hrs : slots + 6 ≤ rs) (hp : ∀ n', nx ≤ n' → post n' M) :
    xW p l e R s m args below meth c D xcl A nL (x_MQT below D xcl A X post s rc rs) cells slots nx M pc lv st :=
  x_throw F rfl hfl hex (x_m hcl) (x_m hins) (x_m hini) (xw_good h0) (F.2.2.2.2.2.2.1 (ib, tx) hS) (fun args' U hE hT => x_hat hX A args' U hE hT) hfit (by decide) d0 d3 d4 d6 d9 hc hsl hfr hlo hrc hrs hp
theorem yVT (F : xF p s m args meth c D xcl A cc nL "GoodsTree" (xw c0)) {y : MethodName} {bytes : ByteArray} {maxL index : Nat} {ret : Option FieldType} {rm : Room} {n : Nat} {As stk : List Value} {post0 post : Nat → xH → Prop} {C : String} {T : u_T} {N ci a : Nat} {fs : List Value} {E : String} {rc rs : Nat} (hli : Cond.methodLink "GoodsTree" index y ∈ xT) (him : Cond.instanceMethod y ∈ xT) (hse : Cond.selects C y y ∈ xT) (hini : Cond.initialized C ∈ xT) (hco : Cond.code y bytes maxL ret ∈ xT) (hd : y.cls = C ∧ y.cls ≠ "java/lang/invoke/MethodHandle" ∧ y.cls ≠ "java/lang/invoke/VarHandle" ∧ (parseMethodDescriptor y.desc).map (fun d => d.parameters.length) = some n) (hdg : decode cc pc = .ok (.invokevirtual index, 3)) (hM : xT_ l xcl y (xw (Cond.code y bytes maxL ret)) rm (.ref a :: As) nx M E post0) (hc : xcl[ci]? = some (C, T, N)) (he : M a = some (.inr (ci, fs))) (hn : As.length = n) (hstk : stk = As.reverse ++ .ref a :: st) (hst8 : (st.map fun v => v.category).sum ≤ 8) (hRm : rm.frames + 1 ≤ R.frames ∧ 8 + (maxL + 11) + rm.locals ≤ R.locals) (hf : cells + rm.cells ≤ R.cells ∧ slots + rm.slots ≤ R.slots) (hex : c.exceptionTable.isEmpty = true) (hrc : cells + rm.cells ≤ rc) (hrs : slots + rm.slots ≤ rs) (hp : ∀ n' M', post0 n' M' → post n' M') :
    xW p l e R s m args below meth c D xcl A nL (x_MQT below D xcl A E post s rc rs) cells slots nx M pc lv stk :=
  x_invVT F (x_gV hli him hse hini hco) rfl hd hc hdg hRm hM he hn hstk hst8 hf hex hrc hrs hp
theorem yST (F : xF p s m args meth c D xcl A cc nL "GoodsTree" (xw c0)) {y : MethodName} {bytes : ByteArray} {maxL index : Nat} {ret : Option FieldType} {rm : Room} {n : Nat} {As stk : List Value} {post0 post : Nat → xH → Prop} {E : String} {rc rs : Nat} (hy : y.cls = "GoodsTree") (hli : Cond.methodLink "GoodsTree" index y ∈ xT) (hst : Cond.static y ∈ xT) (hini : Cond.initialized "GoodsTree" ∈ xT) (hco : Cond.code y bytes maxL ret ∈ xT) (hd : y.cls = "GoodsTree" ∧ y.cls ≠ "java/lang/invoke/MethodHandle" ∧ y.cls ≠ "java/lang/invoke/VarHandle" ∧ (parseMethodDescriptor y.desc).map (fun d => d.parameters.length) = some n) (hdg : decode cc pc = .ok (.invokestatic index, 3)) (hM : xT_ l xcl y (xw (Cond.code y bytes maxL ret)) rm As nx M E post0) (hn : As.length = n) (hstk : stk = As.reverse ++ st) (hst8 : (st.map fun v => v.category).sum ≤ 8) (hRm : rm.frames + 1 ≤ R.frames ∧ 8 + (maxL + 11) + rm.locals ≤ R.locals) (hf : cells + rm.cells ≤ R.cells ∧ slots + rm.slots ≤ R.slots) (hex : c.exceptionTable.isEmpty = true) (hrc : cells + rm.cells ≤ rc) (hrs : slots + rm.slots ≤ rs) (hp : ∀ n' M', post0 n' M' → post n' M') :
    xW p l e R s m args below meth c D xcl A nL (x_MQT below D xcl A E post s rc rs) cells slots nx M pc lv stk := by
  refine x_invST F ?_ rfl hd hdg hRm hM hn hstk hst8 hf hex hrc hrs hp
  intro w hw
  unfold wsS at hw
  rcases List.mem_append.mp hw with hw | hw
  · simp only [List.mem_cons, List.not_mem_nil, or_false] at hw
    rcases hw with rfl | rfl | rfl
    all_goals first | exact ⟨x_m hli, xT_good hli⟩ | exact ⟨x_m hst, xT_good hst⟩ | exact ⟨x_m (by rw [hy]; exact hini), xT_good (by rw [hy]; exact hini)⟩ | exact ⟨x_m hini, xT_good hini⟩
  · exact x_good hco w hw
end XTH
theorem yCT {l : Launch} {y : MethodName} {rm : Room} {As : List Value} {nx : Nat} {M : xH} {E : String} {post : Nat → xH → Prop} {cc : ByteArray} {maxL : Nat} {ret : Option FieldType} (hy : plainName y.cls = true) (hlen : (lg_sl As).length ≤ maxL)
    (body : ∀ (p : Program) (e : Env) (s : State) (m : MethodId) (args : Array Value) (below : List Frame) (meth : Method) (c : Code) (D : va_G), xF p s m args meth c D xcl (x_A M nx) cc maxL y.cls (xw (Cond.code y cc maxL ret)) → meth.sig.returnType = ret → c.exceptionTable.isEmpty = true →
      xW p l e rm s m args below meth c D xcl (x_A M nx) maxL (x_MQT below D xcl (x_A M nx) E post s rm.cells rm.slots) 0 0 nx M 0 (lv_args 0 As) []) : xT_ l xcl y (xw (Cond.code y cc maxL ret)) rm As nx M E post := xT_.of hy rfl hlen body
