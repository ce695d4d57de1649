section XREL
variable {p : Program} {l : Launch} {e : Env} {R : Room} {s : State} {m : MethodId} {args : Array Value} {below : List Frame} {meth : Method} {c : Code} {D : va_G} {A : Nat → Prop} {nL : Nat} {Q : State → Prop} {cells slots nx : Nat} {M : xH} {pc : Nat} {lv : List (Nat × Value)} {st : List Value}
variable {cc : ByteArray} {own : String} {c0 : Cond}
theorem yVr (F : xF p s m args meth c D xcl A cc nL own (xw c0)) {y : MethodName} {bytes : ByteArray} {maxL index : Nat} {ret : Option FieldType} {rm : Room} {n : Nat} {As stk : List Value} {post : xO → Nat → xH → Prop} {C : String} {T : u_T} {N ci a : Nat} {fs : List Value} (hli : Cond.methodLink own index y ∈ xT) (him : Cond.instanceMethod y ∈ xT) (hse : Cond.selects C y y ∈ xT) (hini : Cond.initialized C ∈ xT) (hco : Cond.code y bytes maxL ret ∈ xT) (hd : y.cls = C ∧ y.cls ≠ "java/lang/invoke/MethodHandle" ∧ y.cls ≠ "java/lang/invoke/VarHandle" ∧ (parseMethodDescriptor y.desc).map (fun d => d.parameters.length) = some n) (hdg : decode cc pc = .ok (.invokevirtual index, 3)) (hM : xC l xcl y (xw (Cond.code y bytes maxL ret)) rm (.ref a :: As) nx M post) (hc : xcl[ci]? = some (C, T, N)) (he : M a = some (.inr (ci, fs))) (hn : As.length = n) (hstk : stk = As.reverse ++ .ref a :: st) (hst8 : (st.map fun v => v.category).sum ≤ 8) (hRm : rm.frames + 1 ≤ R.frames ∧ 8 + (maxL + 11) + rm.locals ≤ R.locals) (hf : cells + rm.cells ≤ R.cells ∧ slots + rm.slots ≤ R.slots) (kk : ∀ (r : Option Value) (n' : Nat) (M' : xH), post r n' M' → xW p l e R s m args below meth c D xcl A nL Q (cells + rm.cells) (slots + rm.slots) n' M' (pc + 3) lv (r.toList ++ st)) : xW p l e R s m args below meth c D xcl A nL Q cells slots nx M pc lv stk :=
  x_invV F (x_gV hli him hse hini hco) rfl hd hc hdg hRm hM he hn hstk hst8 hf kk
theorem xW.lve {lv' : List (Nat × Value)} (h : lv = lv') (k : xW p l e R s m args below meth c D xcl A nL Q cells slots nx M pc lv' st) : xW p l e R s m args below meth c D xcl A nL Q cells slots nx M pc lv st := h ▸ k
theorem xW.ste {st' : List Value} (h : st = st') (k : xW p l e R s m args below meth c D xcl A nL Q cells slots nx M pc lv st') : xW p l e R s m args below meth c D xcl A nL Q cells slots nx M pc lv st := h ▸ k
end XREL
theorem o_cases (r : Option Nat) : r = none ∨ ∃ j, r = some j := by cases r with
  | none => exact Or.inl rfl
  | some j => exact Or.inr ⟨j, rfl⟩
theorem x_up_id {M : xH} {a : Nat} {e : xE} (h : M a = some e) : x_up M a e = M := by
  funext b
  by_cases hb : b = a
  · subst hb; rw [x_up_s, h]
  · rw [x_up_n hb]
section XMATH
variable {p : Program} {l : Launch} {e : Env} {R : Room} {s : State} {m : MethodId} {args : Array Value} {below : List Frame} {meth : Method} {c : Code} {D : va_G} {cl : List vw_C} {A : Nat → Prop} {nL : Nat} {Q : State → Prop} {cells slots nx : Nat} {M : xH} {pc : Nat} {lv : List (Nat × Value)} {st : List Value}
variable {cc : ByteArray} {own : String} {Ts : List Cond}
theorem x_mmax (F : xF p s m args meth c D cl A cc nL own Ts) {index : Nat} {x y : Int32} (hli : Cond.methodLink own index Lib.Math.max.name ∈ Ts) (hst : Cond.static Lib.Math.max.name ∈ Ts) (hini : Cond.initialized "java/lang/Math" ∈ Ts) (hco : Cond.code Lib.Math.max.name Lib.Math.max.code 2 (some .int) ∈ Ts) (hdg : decode cc pc = .ok (.invokestatic index, 3)) (hfr : 1 ≤ R.frames) (hlo : (st.map fun v => v.category).sum + 13 ≤ R.locals) (hc : cells ≤ R.cells) (hs : slots ≤ R.slots) (k : xW p l e R s m args below meth c D cl A nL Q cells slots nx M (pc + 3) lv (.int (if x < y then y else x) :: st)) : xW p l e R s m args below meth c D cl A nL Q cells slots nx M pc lv (.int y :: .int x :: st) :=
  fun H locs ls hz hS hR hl => va_mmax F.1.1 F.1.2.1 (by rw [F.1.2.2.1]; exact hl.1.symm) F.1.2.2.2.1 (F.1.2.2.2.2 _ hli) (F.1.2.2.2.2 _ hst) (F.1.2.2.2.2 _ hini) (F.1.2.2.2.2 _ hco) hfr hlo hc hs hdg (k H locs ls hz hS hR hl)
theorem x_mmin (F : xF p s m args meth c D cl A cc nL own Ts) {index : Nat} {x y : Int32} (hli : Cond.methodLink own index Lib.Math.min.name ∈ Ts) (hst : Cond.static Lib.Math.min.name ∈ Ts) (hini : Cond.initialized "java/lang/Math" ∈ Ts) (hco : Cond.code Lib.Math.min.name Lib.Math.min.code 2 (some .int) ∈ Ts) (hdg : decode cc pc = .ok (.invokestatic index, 3)) (hfr : 1 ≤ R.frames) (hlo : (st.map fun v => v.category).sum + 13 ≤ R.locals) (hc : cells ≤ R.cells) (hs : slots ≤ R.slots) (k : xW p l e R s m args below meth c D cl A nL Q cells slots nx M (pc + 3) lv (.int (if y < x then y else x) :: st)) : xW p l e R s m args below meth c D cl A nL Q cells slots nx M pc lv (.int y :: .int x :: st) :=
  fun H locs ls hz hS hR hl => va_mmin F.1.1 F.1.2.1 (by rw [F.1.2.2.1]; exact hl.1.symm) F.1.2.2.2.1 (F.1.2.2.2.2 _ hli) (F.1.2.2.2.2 _ hst) (F.1.2.2.2.2 _ hini) (F.1.2.2.2.2 _ hco) hfr hlo hc hs hdg (k H locs ls hz hS hR hl)
end XMATH
