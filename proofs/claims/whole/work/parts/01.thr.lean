/-! what the tables and the statics say beside the words: calls of nest mates, the array of trees, what a throw needs -/
def x_St : List (Nat × String) := [(64, "the text is no nomenclature"), (93, "no such row"), (113, "no such what"), (125, "no such codes or kind for a note"), (136, "no room for the note, or it is there"), (145, "no code of the present edition"), (204, "no two editions"), (206, "no code of the edition"), (177, "the text is no words"), (189, "no such row found, or no such what")]
abbrev x_TN : String := "java/lang/Throwable"
abbrev x_UD : String := "[Ljava/lang/StackTraceElement;"
abbrev x_LD : String := "Ljava/util/List;"
/-- a static of Throwable that holds a reference or null, in a cell that isn't written -/
def x_Zs (n d : String) (A : Nat → Prop) (U : State) (H : Heap) : Prop := ∃ (cf : ClassId) (kf : Class) (fi : Nat) (f : Field) (a : Nat) (cell : Cell) (v : Value), U.vm.findClass x_TN = some cf ∧ U.fieldFound? x_TN n d = some (cf, kf, fi, f) ∧ f.isStatic = true ∧ kf.statics = some a ∧ H[a]? = some cell ∧ cell.vm.isStatics = true ∧ cell.cls = cf ∧ f.slot < cell.slots.size ∧ kf.staticTypes[f.slot]? = some f.type ∧ cell.slots[f.slot]? = some v ∧ (v = .null ∨ ∃ r, v = .ref r) ∧ ¬ A a
theorem x_Zs.step {n d : String} {A B : Nat → Prop} {s U : State} {H0 H : Heap} (h : x_Zs n d A s H0) (hal : s.vm.Alike U.vm) (hk : ∀ q : Nat, q < H0.size → ¬ A q → H[q]? = H0[q]?) (hB : ∀ q, B q → A q) : x_Zs n d B U H := by
  obtain ⟨cf, kf, fi, f, a, cell, v, h0, h1, h2, h3, h4, h5, h6, h7, h8, h9, h10, h11⟩ := h
  obtain ⟨k', hi', he⟩ := State.fieldFound?_setVm hal h1
  exact ⟨cf, k', fi, f, a, cell, v, by rw [hal.findClass]; exact h0, hi', h2, by rw [he]; exact h3, by rw [hk a (Array.getElem?_eq_some_iff.mp h4).1 h11]; exact h4, h5, h6, h7, by rw [he]; exact h8, h9, h10, fun z => h11 (hB a z)⟩
theorem x_Zs.lays {n d : String} {A : Nat → Prop} {U : State} (h : x_Zs n d A U U.heap) (args : Array Value) : (Cond.laysStatic x_TN n d).before args U = true := by
  obtain ⟨cf, kf, fi, f, a, cell, v, h0, h1, h2, h3, h4, h5, h6, h7, h8, h9, h10, h11⟩ := h
  simp [Cond.before, Cond.holds, Cond.value, h0, h1, h2, h3, h4, h5, h6, h7, h8]
theorem x_Zs.isRef {n d : String} {A : Nat → Prop} {U : State} (h : x_Zs n d A U U.heap) (args : Array Value) : (Cond.isRef (.static x_TN n d)).before args U = true := by
  obtain ⟨cf, kf, fi, f, a, cell, v, h0, h1, h2, h3, h4, h5, h6, h7, h8, h9, h10, h11⟩ := h
  have he : (Term.static x_TN n d).eval args U none [] U = some v := by
    simp [Term.eval, State.fieldNamed?, h1, h2, h3, h4, h5, h9]
  rcases h10 with rfl | ⟨r, rfl⟩ <;> simp [Cond.before, Cond.holds, Cond.value, he]
theorem x_Zs.of {n d : String} {A : Nat → Prop} {args : Array Value} {s : State} (hl : (Cond.laysStatic x_TN n d).before args s = true) (hr : (Cond.isRef (.static x_TN n d)).before args s = true) (hA : ∀ a : Nat, a < s.heap.size → ¬ A a) : x_Zs n d A s s.heap := by
  obtain ⟨c, k, i, f, a, cell, hc, hi, hst, ha, hcell, hs, hcls, hlt, hty⟩ := Cond.laysStatic_spec hl
  cases hv : (Term.static x_TN n d).eval args s none [] s with
  | none => simp [Cond.before, Cond.holds, Cond.value, hv] at hr
  | some v =>
    obtain ⟨hst', a', cell', ha', hcell', -, hslot⟩ := Term.static_spec hi hv
    cases ha.symm.trans ha'
    cases hcell.symm.trans hcell'
    refine ⟨c, k, i, f, a, cell, v, hc, hi, hst, ha, hcell, hs, hcls, hlt, hty, hslot, ?_, hA a (Array.getElem?_eq_some_iff.mp hcell).1⟩
    cases v <;> first | exact Or.inl rfl | exact Or.inr ⟨_, rfl⟩ | (simp [Cond.before, Cond.holds, Cond.value, hv] at hr)
theorem x_alN {a b : String} {s U : State} (hal : s.vm.Alike U.vm) (h : va_Nw (.not (.castable a b)) s) : va_Nw (.not (.castable a b)) U := by
  have hv := Cond.holds_not_iff.mp h
  refine Cond.holds_not_iff.mpr ?_
  simp only [Cond.value, hal.findClass, hal.assignable] at hv ⊢
  exact hv
theorem x_warmN {a b : String} {s U : State} (hW : s.WarmedH U.vm) (h : va_Nw (.not (.castable a b)) s) : va_Nw (.not (.castable a b)) U := x_alN hW.alike h
def x_E (A : Nat → Prop) (U : State) (H : Heap) : Prop :=
  (va_Nw (Jvm.Cond.methodLinkNest "GoodsTree" (9 : Nat) ({ cls := "GoodsTree$TextReader", name := "<init>", desc := "()V" } : Jvm.MethodName) "GoodsTree") U ∧ va_Nw (Jvm.Cond.methodLinkNest "GoodsTree" (36 : Nat) ({ cls := "GoodsTree$Findings", name := "<init>", desc := "()V" } : Jvm.MethodName) "GoodsTree") U ∧ va_Nw (Jvm.Cond.methodLinkNest "GoodsTree" (41 : Nat) ({ cls := "GoodsTree$Tree", name := "<init>", desc := "()V" } : Jvm.MethodName) "GoodsTree") U ∧ va_Nw (Jvm.Cond.castable "java/lang/IllegalStateException" "java/lang/IllegalStateException") U ∧ va_Nw (Jvm.Cond.castable "java/lang/IndexOutOfBoundsException" "java/lang/IndexOutOfBoundsException") U ∧ va_Nw (Jvm.Cond.castable "java/lang/IllegalArgumentException" "java/lang/IllegalArgumentException") U ∧ va_Nw (Jvm.Cond.declares ({ cls := "java/lang/RuntimeException", name := "<init>", desc := "()V" } : Jvm.MethodName)) U ∧ va_Nw (Jvm.Cond.declares ({ cls := "java/lang/RuntimeException", name := "<init>", desc := "(Ljava/lang/String;)V" } : Jvm.MethodName)) U ∧ va_Nw (Jvm.Cond.declares ({ cls := "java/lang/Exception", name := "<init>", desc := "()V" } : Jvm.MethodName)) U ∧ va_Nw (Jvm.Cond.declares ({ cls := "java/lang/Exception", name := "<init>", desc := "(Ljava/lang/String;)V" } : Jvm.MethodName)) U ∧ va_Nw (Jvm.Cond.declares ({ cls := "java/lang/Throwable", name := "<init>", desc := "()V" } : Jvm.MethodName)) U ∧ va_Nw (Jvm.Cond.declares ({ cls := "java/lang/Throwable", name := "<init>", desc := "(Ljava/lang/String;)V" } : Jvm.MethodName)) U ∧ va_Nw (Jvm.Cond.not (Jvm.Cond.castable "java/lang/IllegalStateException" "java/lang/IllegalArgumentException")) U) ∧ va_AO "GoodsTree$Tree" U ∧ (∀ q ∈ x_St, ∃ a, vk_R "GoodsTree" q.1 q.2 a U) ∧ x_Zs "UNASSIGNED_STACK" x_UD A U H ∧ x_Zs "SUPPRESSED_SENTINEL" x_LD A U H
theorem x_E.step {A B : Nat → Prop} {s U : State} {H0 H : Heap} (h : x_E A s H0) (hW : s.WarmedH U.vm) (hk : ∀ q : Nat, q < H0.size → ¬ A q → H[q]? = H0[q]?) (hB : ∀ q, B q → A q) : x_E B U H := by
  obtain ⟨⟨h0, h1, h2, h3, h4, h5, h6, h7, h8, h9, h10, h11, h12⟩, ha, hs, z1, z2⟩ := h
  exact ⟨⟨va_Nw.warmM hW h0, va_Nw.warmM hW h1, va_Nw.warmM hW h2, va_Nw.warmC hW h3, va_Nw.warmC hW h4, va_Nw.warmC hW h5, va_Nw.warmD hW h6, va_Nw.warmD hW h7, va_Nw.warmD hW h8, va_Nw.warmD hW h9, va_Nw.warmD hW h10, va_Nw.warmD hW h11, x_warmN hW h12⟩, va_AO.moved hW.alike ha, fun q hq => by obtain ⟨a, h⟩ := hs q hq; exact ⟨a, h.warm hW⟩, z1.step hW.alike hk hB, z2.step hW.alike hk hB⟩
theorem x_E.same {A : Nat → Prop} {s U : State} {H : Heap} (h : x_E A s H) (hv : U.vm = s.vm) : x_E A U H := by
  obtain ⟨⟨h0, h1, h2, h3, h4, h5, h6, h7, h8, h9, h10, h11, h12⟩, ha, hs, z1, z2⟩ := h
  have hal : s.vm.Alike U.vm := by rw [hv]; exact Vm.Alike.refl s.vm
  exact ⟨⟨va_Nw.same rfl hv.symm h0, va_Nw.same rfl hv.symm h1, va_Nw.same rfl hv.symm h2, va_Nw.same rfl hv.symm h3, va_Nw.same rfl hv.symm h4, va_Nw.same rfl hv.symm h5, va_Nw.same rfl hv.symm h6, va_Nw.same rfl hv.symm h7, va_Nw.same rfl hv.symm h8, va_Nw.same rfl hv.symm h9, va_Nw.same rfl hv.symm h10, va_Nw.same rfl hv.symm h11, x_alN hal h12⟩, va_AO.moved hal ha, fun q hq => by obtain ⟨a, h⟩ := hs q hq; exact ⟨a, vk_R.same hv h⟩, z1.step hal (fun _ _ _ => rfl) (fun _ h => h), z2.step hal (fun _ _ _ => rfl) (fun _ h => h)⟩
