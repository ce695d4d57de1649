section XH
variable {p : Program} {l : Launch} {e : Env} {R : Room} {s : State} {m : MethodId} {args : Array Value} {below : List Frame} {meth : Method} {c : Code} {D : va_G} {cl : List vw_C} {A : Nat → Prop} {nL : Nat} {Q : State → Prop} {cells slots nx : Nat} {M : xH} {pc : Nat} {lv : List (Nat × Value)} {st : List Value}
variable {cc : ByteArray} {own : String} {Ts : List Cond}
theorem x_get (F : xF p s m args meth c D cl A cc nL own Ts) {C : String} {T : u_T} {N ci index a : Nat} {fs : List Value} {v : Value} (k : Nat) (hin : ∀ w ∈ u_ws C T N, w ∈ Ts) (hc : cl[ci]? = some (C, T, N)) (hk : k < N) (hlink : Cond.fieldLink own index (T k).1 (T k).2.1 (T k).2.2.1 ∈ Ts) (hdg : decode cc pc = .ok (.getfield index, 3)) (he : M a = some (.inr (ci, fs))) (hv : fs[k]? = some v) (kk : xW p l e R s m args below meth c D cl A nL Q cells slots nx M (pc + 3) lv (v :: st)) : xW p l e R s m args below meth c D cl A nL Q cells slots nx M pc lv (.ref a :: st) :=
  fun H locs ls hz hS hR hl => va_get (D := D) (ws := [(a, .inr (ci, fs))]) (tys := []) F.1.1 F.1.2.1 F.1.2.2.2.2 hin F.1.2.2.2.1 F.2.1 (x_one (hR a _ he).1) 0 rfl hc k hk (F.1.2.2.2.2 _ hlink) (fun _ h => h) hv hdg (kk H locs ls hz hS hR hl)
theorem x_put (F : xF p s m args meth c D cl A cc nL own Ts) {C : String} {T : u_T} {N ci index a : Nat} {fs : List Value} {v : Value} {ty : FieldType} (k : Nat) (hin : ∀ w ∈ u_ws C T N, w ∈ Ts) (ty0 : Nat → FieldType) (hty : ∀ k, k < N → parseFieldDescriptor (T k).2.2.1 = some (ty0 k)) (hnm : ∀ a, a < N → ∀ b, b < N → a ≠ b → (T a).2.1 ≠ (T b).2.1) (hc : cl[ci]? = some (C, T, N)) (hk : k < N) (hlink : Cond.fieldLink own index (T k).1 (T k).2.1 (T k).2.2.1 ∈ Ts) (hdg : decode cc pc = .ok (.putfield index, 3)) (hfin : (T k).2.2.2 = false) (hd : parseFieldDescriptor (T k).2.2.1 = some ty) (hn : narrow ty v = v) (hfit : fits ty v = true) (he : M a = some (.inr (ci, fs))) (hl' : k < fs.length) (kk : xW p l e R s m args below meth c D cl A nL Q cells slots nx (x_up M a (.inr (ci, fs.set k v))) (pc + 3) lv st) : xW p l e R s m args below meth c D cl A nL Q cells slots nx M pc lv (v :: .ref a :: st) := by
  intro H locs ls hz hS hR hl
  have hap := va_apart (own := own) F.1.2.2.2.2 hin ty0 hty hnm F.2.1 hc
  obtain ⟨⟨r, h1, cell, q1, q2, q3, q4⟩, hAa⟩ := hR a _ he
  have hr : r = (C, T, N) := Option.some.inj (h1.symm.trans hc)
  subst hr
  obtain ⟨hSl, hfc, kC, hkC, hkind⟩ := F.2.1.1 ci _ hc
  obtain ⟨cf, kf, fi, f, hi, hsl⟩ := hSl k hk
  have hlay := F.1.2.2.2.2 _ (hin _ (u_in_lay hk))
  unfold u_lay at hlay
  rw [if_neg (by rw [hfin]; decide)] at hlay
  have hst := (u_facts hfc hkC (u_lays F.1.2.2.2.2 hin hk) hi).1
  have h6 := u_store hfc hkC hkind hlay hi hd hn hfit
  refine W.putK F.1.1 F.1.2.1 (f := f) ⟨F.1.2.2.2.1, F.1.2.2.2.2 _ hlink, ⟨_, _, _, hi⟩, hst⟩ (by rw [q2]; exact h6) q1 q3 (by rw [hsl]; exact k2_hasslot (q4 k hk)) rfl rfl hdg fun H' e1 e2 e3 => ?_
  rw [hsl] at e1 ⊢
  exact kk H' _ ls (e2.trans hz) (hS.put e2 e3 hAa) (hR.set hAa ⟨_, hc, t_OB.to (V := updV (vp_V fs) k v) ⟨_, e1, q2, q3, t_set q4 hap hk v⟩ (fun j _ => vp_updV_set hl' v j)⟩ e3) hl
theorem x_putF (F : xF p s m args meth c D cl A cc nL own Ts) {C : String} {T : u_T} {N ci index a : Nat} {fs : List Value} {v : Value} {ty : FieldType} (k : Nat) (hin : ∀ w ∈ u_ws C T N, w ∈ Ts) (ty0 : Nat → FieldType) (hty : ∀ k, k < N → parseFieldDescriptor (T k).2.2.1 = some (ty0 k)) (hnm : ∀ a, a < N → ∀ b, b < N → a ≠ b → (T a).2.1 ≠ (T b).2.1) (hc : cl[ci]? = some (C, T, N)) (hk : k < N) (hlink : Cond.fieldLink own index (T k).1 (T k).2.1 (T k).2.2.1 ∈ Ts) (hdg : decode cc pc = .ok (.putfield index, 3)) (hfin : (T k).2.2.2 = true) (hin2 : meth.name = "<init>") (hdecl : (T k).1 = own) (hd : parseFieldDescriptor (T k).2.2.1 = some ty) (hn : narrow ty v = v) (hfit : fits ty v = true) (he : M a = some (.inr (ci, fs))) (hl' : k < fs.length) (kk : xW p l e R s m args below meth c D cl A nL Q cells slots nx (x_up M a (.inr (ci, fs.set k v))) (pc + 3) lv st) : xW p l e R s m args below meth c D cl A nL Q cells slots nx M pc lv (v :: .ref a :: st) := by
  intro H locs ls hz hS hR hl
  have hap := va_apart (own := own) F.1.2.2.2.2 hin ty0 hty hnm F.2.1 hc
  obtain ⟨⟨r, h1, cell, q1, q2, q3, q4⟩, hAa⟩ := hR a _ he
  have hr : r = (C, T, N) := Option.some.inj (h1.symm.trans hc)
  subst hr
  obtain ⟨hSl, hfc, kC, hkC, hkind⟩ := F.2.1.1 ci _ hc
  obtain ⟨cf, kf, fi, f, hi, hsl⟩ := hSl k hk
  have hlay := F.1.2.2.2.2 _ (hin _ (u_in_lay hk))
  unfold u_lay at hlay
  rw [if_pos hfin] at hlay
  have hst := (u_facts hfc hkC (u_lays F.1.2.2.2.2 hin hk) hi).1
  have hcf : m.cls = cf := by
    obtain ⟨_, _, c', _, _, _, -, -, hf', -, -, -, hown2, -⟩ := Cond.laysFinal_spec hlay
    have e1 : c' = cf := by have := hi.symm.trans hf'; simp at this; exact this.1.symm
    rw [hdecl] at hown2
    rw [← e1]; exact Option.some.inj (F.1.2.2.2.1.symm.trans hown2)
  have h6 := u_fits hfc hkC hkind (Or.inr hlay) hi hd hn hfit
  refine W.putFinK F.1.1 F.1.2.1 F.1.2.2.2.1 (F.1.2.2.2.2 _ hlink) hi hst hcf hin2 (by rw [q2]; exact h6) q1 q3 (by rw [hsl]; exact k2_hasslot (q4 k hk)) rfl rfl hdg fun H' e1 e2 e3 => ?_
  rw [hsl] at e1 ⊢
  exact kk H' _ ls (e2.trans hz) (hS.put e2 e3 hAa) (hR.set hAa ⟨_, hc, t_OB.to (V := updV (vp_V fs) k v) ⟨_, e1, q2, q3, t_set q4 hap hk v⟩ (fun j _ => vp_updV_set hl' v j)⟩ e3) hl
theorem x_iald (F : xF p s m args meth c D cl A cc nL own Ts) {a n : Nat} {f : Nat → Int32} {i : Int32} (hdg : decode cc pc = .ok (.iaload, 1)) (he : M a = some (.inl (.int, n, .inl f))) (hin : vp_in i n) (k : xW p l e R s m args below meth c D cl A nL Q cells slots nx M (pc + 1) lv (.int (f i.toNatClampNeg) :: st)) : xW p l e R s m args below meth c D cl A nL Q cells slots nx M pc lv (.int i :: .ref a :: st) := by
  intro H locs ls hz hS hR hl
  obtain ⟨⟨cA, hA, hh⟩, -⟩ := hR a _ he
  exact va_iald (ws := [(a, .inl (cA, n, .inl f))]) (tys := [(cA, .int)]) F.1.1 F.1.2.1 (x_K1 F.2.1 hA) (x_one hh) 0 0 rfl rfl hin hdg (k H locs ls hz hS hR hl)
theorem x_cald (F : xF p s m args meth c D cl A cc nL own Ts) {a n : Nat} {f : Nat → Int32} {i : Int32} (hdg : decode cc pc = .ok (.caload, 1)) (he : M a = some (.inl (.char, n, .inl f))) (hin : vp_in i n) (k : xW p l e R s m args below meth c D cl A nL Q cells slots nx M (pc + 1) lv (.int (f i.toNatClampNeg) :: st)) : xW p l e R s m args below meth c D cl A nL Q cells slots nx M pc lv (.int i :: .ref a :: st) := by
  intro H locs ls hz hS hR hl
  obtain ⟨⟨cA, hA, hh⟩, -⟩ := hR a _ he
  exact va_cald (ws := [(a, .inl (cA, n, .inl f))]) (tys := [(cA, .char)]) F.1.1 F.1.2.1 (x_K1 F.2.1 hA) (x_one hh) 0 0 rfl rfl hin hdg (k H locs ls hz hS hR hl)
theorem x_bald (F : xF p s m args meth c D cl A cc nL own Ts) {a n : Nat} {f : Nat → Int32} {i : Int32} (hdg : decode cc pc = .ok (.baload, 1)) (he : M a = some (.inl (.byte, n, .inl f))) (hin : vp_in i n) (k : xW p l e R s m args below meth c D cl A nL Q cells slots nx M (pc + 1) lv (.int (f i.toNatClampNeg) :: st)) : xW p l e R s m args below meth c D cl A nL Q cells slots nx M pc lv (.int i :: .ref a :: st) := by
  intro H locs ls hz hS hR hl
  obtain ⟨⟨cA, hA, hh⟩, -⟩ := hR a _ he
  exact va_bald (ws := [(a, .inl (cA, n, .inl f))]) (tys := [(cA, .byte)]) F.1.1 F.1.2.1 (x_K1 F.2.1 hA) (x_one hh) 0 0 rfl rfl hin hdg (k H locs ls hz hS hR hl)
theorem x_lald (F : xF p s m args meth c D cl A cc nL own Ts) {a n : Nat} {f : Nat → Int64} {i : Int32} (hdg : decode cc pc = .ok (.laload, 1)) (he : M a = some (.inl (.long, n, .inr (.inl f)))) (hin : vp_in i n) (k : xW p l e R s m args below meth c D cl A nL Q cells slots nx M (pc + 1) lv (.long (f i.toNatClampNeg) :: st)) : xW p l e R s m args below meth c D cl A nL Q cells slots nx M pc lv (.int i :: .ref a :: st) := by
  intro H locs ls hz hS hR hl
  obtain ⟨⟨cA, hA, hh⟩, -⟩ := hR a _ he
  exact va_lald (ws := [(a, .inl (cA, n, .inr (.inl f)))]) (tys := [(cA, .long)]) F.1.1 F.1.2.1 (x_K1 F.2.1 hA) (x_one hh) 0 0 rfl rfl hin hdg (k H locs ls hz hS hR hl)
theorem x_zald (F : xF p s m args meth c D cl A cc nL own Ts) {a n : Nat} {f : Nat → Int32} {i : Int32} (hdg : decode cc pc = .ok (.baload, 1)) (he : M a = some (.inl (.boolean, n, .inl f))) (hin : vp_in i n) (k : xW p l e R s m args below meth c D cl A nL Q cells slots nx M (pc + 1) lv (.int (f i.toNatClampNeg) :: st)) : xW p l e R s m args below meth c D cl A nL Q cells slots nx M pc lv (.int i :: .ref a :: st) := by
  intro H locs ls hz hS hR hl
  obtain ⟨⟨cA, hA, hh⟩, -⟩ := hR a _ he
  exact va_zald (ws := [(a, .inl (cA, n, .inl f))]) (tys := [(cA, .boolean)]) F.1.1 F.1.2.1 (x_K1 F.2.1 hA) (x_one hh) 0 0 rfl rfl hin hdg (k H locs ls hz hS hR hl)
theorem x_aald (F : xF p s m args meth c D cl A cc nL own Ts) {a n : Nat} {C : String} {f : Nat → Option Nat} {i : Int32} (hdg : decode cc pc = .ok (.aaload, 1)) (he : M a = some (.inl (.object C, n, .inr (.inr (.inr (.inr f)))))) (hin : vp_in i n) (k : xW p l e R s m args below meth c D cl A nL Q cells slots nx M (pc + 1) lv (va_rf (f i.toNatClampNeg) :: st)) : xW p l e R s m args below meth c D cl A nL Q cells slots nx M pc lv (.int i :: .ref a :: st) := by
  intro H locs ls hz hS hR hl
  obtain ⟨⟨cA, hA, hh⟩, -⟩ := hR a _ he
  exact va_aldq (ws := [(a, .inl (cA, n, .inr (.inr (.inr (.inr f)))))]) (tys := [(cA, .object C)]) F.1.1 F.1.2.1 (x_K1 F.2.1 hA) (x_one hh) 0 0 rfl rfl hin hdg (k H locs ls hz hS hR hl)
theorem x_iast (F : xF p s m args meth c D cl A cc nL own Ts) {a n : Nat} {f : Nat → Int32} {i : Int32} {x : Int32} (hdg : decode cc pc = .ok (.iastore, 1)) (he : M a = some (.inl (.int, n, .inl f))) (hin : vp_in i n) (k : xW p l e R s m args below meth c D cl A nL Q cells slots nx (x_up M a (.inl (.int, n, .inl (upd f i.toNatClampNeg x)))) (pc + 1) lv st) : xW p l e R s m args below meth c D cl A nL Q cells slots nx M pc lv (.int x :: .int i :: .ref a :: st) := by
  intro H locs ls hz hS hR hl
  obtain ⟨⟨cA, hA, hh⟩, hAa⟩ := hR a _ he
  have hh : H[a]? = some (vp_cell cA (n, .inl f)) := hh
  refine W.iast F.1.1 F.1.2.1 hh (hA.1 n (fun j => .int (f j))) (fun q => by cases q) (by show ¬ (i < 0 ∨ (arrV _ _ _).slots.size ≤ _); rw [arrV_size]; exact hin) rfl rfl hdg fun H1 e z oq => ?_
  refine k H1 _ ls (z.trans hz) (hS.put z oq hAa) (hR.set hAa ⟨cA, hA, ?_⟩ oq) hl
  show H1[a]? = some (vp_cell cA (n, .inl (upd f i.toNatClampNeg x)))
  rw [e, vp_cell_i, vp_cell_i, arrV_store]
  congr 2
  funext q
  by_cases hq : q = i.toNatClampNeg
  · subst hq
    simp [updV, upd, vp_nar]
    try rfl
  · simp [updV, upd, vp_nar, hq]
theorem x_cast (F : xF p s m args meth c D cl A cc nL own Ts) {a n : Nat} {f : Nat → Int32} {i : Int32} {x : Int32} (hdg : decode cc pc = .ok (.castore, 1)) (he : M a = some (.inl (.char, n, .inl f))) (hin : vp_in i n) (k : xW p l e R s m args below meth c D cl A nL Q cells slots nx (x_up M a (.inl (.char, n, .inl (upd f i.toNatClampNeg (vp_nar .char x))))) (pc + 1) lv st) : xW p l e R s m args below meth c D cl A nL Q cells slots nx M pc lv (.int x :: .int i :: .ref a :: st) := by
  intro H locs ls hz hS hR hl
  obtain ⟨⟨cA, hA, hh⟩, hAa⟩ := hR a _ he
  have hh : H[a]? = some (vp_cell cA (n, .inl f)) := hh
  refine W.cast F.1.1 F.1.2.1 hh (hA.1 n (fun j => .int (f j))) (fun q => by cases q) (by show ¬ (i < 0 ∨ (arrV _ _ _).slots.size ≤ _); rw [arrV_size]; exact hin) rfl rfl hdg fun H1 e z oq => ?_
  refine k H1 _ ls (z.trans hz) (hS.put z oq hAa) (hR.set hAa ⟨cA, hA, ?_⟩ oq) hl
  show H1[a]? = some (vp_cell cA (n, .inl (upd f i.toNatClampNeg (vp_nar .char x))))
  rw [e, vp_cell_i, vp_cell_i, arrV_store]
  congr 2
  funext q
  by_cases hq : q = i.toNatClampNeg
  · subst hq
    simp [updV, upd, vp_nar]
    try rfl
  · simp [updV, upd, vp_nar, hq]
theorem x_last (F : xF p s m args meth c D cl A cc nL own Ts) {a n : Nat} {f : Nat → Int64} {i : Int32} {x : Int64} (hdg : decode cc pc = .ok (.lastore, 1)) (he : M a = some (.inl (.long, n, .inr (.inl f)))) (hin : vp_in i n) (k : xW p l e R s m args below meth c D cl A nL Q cells slots nx (x_up M a (.inl (.long, n, .inr (.inl (vp_updL f i.toNatClampNeg x))))) (pc + 1) lv st) : xW p l e R s m args below meth c D cl A nL Q cells slots nx M pc lv (.long x :: .int i :: .ref a :: st) := by
  intro H locs ls hz hS hR hl
  obtain ⟨⟨cA, hA, hh⟩, hAa⟩ := hR a _ he
  have hh : H[a]? = some (vp_cell cA (n, .inr (.inl f))) := hh
  refine W.last F.1.1 F.1.2.1 hh (hA.1 n (fun j => .long (f j))) (fun q => by cases q) (by show ¬ (i < 0 ∨ (arrV _ _ _).slots.size ≤ _); rw [arrV_size]; exact hin) rfl rfl hdg fun H1 e z oq => ?_
  refine k H1 _ ls (z.trans hz) (hS.put z oq hAa) (hR.set hAa ⟨cA, hA, ?_⟩ oq) hl
  show H1[a]? = some (vp_cell cA (n, .inr (.inl (vp_updL f i.toNatClampNeg x))))
  rw [e, vp_cell_l, vp_cell_l, arrV_store]
  congr 2
  funext q
  by_cases hq : q = i.toNatClampNeg
  · subst hq
    simp [updV, vp_updL]
    try rfl
  · simp [updV, vp_updL, hq]
theorem x_bast (F : xF p s m args meth c D cl A cc nL own Ts) {a n : Nat} {f : Nat → Int32} {i : Int32} {x : Int32} (hdg : decode cc pc = .ok (.bastore, 1)) (he : M a = some (.inl (.byte, n, .inl f))) (hin : vp_in i n) (k : xW p l e R s m args below meth c D cl A nL Q cells slots nx (x_up M a (.inl (.byte, n, .inl (upd f i.toNatClampNeg (vp_nar .byte x))))) (pc + 1) lv st) : xW p l e R s m args below meth c D cl A nL Q cells slots nx M pc lv (.int x :: .int i :: .ref a :: st) := by
  intro H locs ls hz hS hR hl
  obtain ⟨⟨cA, hA, hh⟩, hAa⟩ := hR a _ he
  have hh : H[a]? = some (vp_cell cA (n, .inl f)) := hh
  refine W.bast F.1.1 F.1.2.1 hh (hA.1 n (fun j => .int (f j))) (fun q => by cases q) (by show ¬ (i < 0 ∨ (arrV _ _ _).slots.size ≤ _); rw [arrV_size]; exact hin) rfl rfl hdg fun H1 e z oq => ?_
  refine k H1 _ ls (z.trans hz) (hS.put z oq hAa) (hR.set hAa ⟨cA, hA, ?_⟩ oq) hl
  show H1[a]? = some (vp_cell cA (n, .inl (upd f i.toNatClampNeg (vp_nar .byte x))))
  rw [e, vp_cell_i, vp_cell_i, arrV_store]
  congr 2
  funext q
  by_cases hq : q = i.toNatClampNeg
  · subst hq
    simp [updV, upd, vp_nar]
    try rfl
  · simp [updV, upd, vp_nar, hq]
theorem x_zast (F : xF p s m args meth c D cl A cc nL own Ts) {a n : Nat} {f : Nat → Int32} {i : Int32} {x : Int32} (hdg : decode cc pc = .ok (.bastore, 1)) (he : M a = some (.inl (.boolean, n, .inl f))) (hin : vp_in i n) (k : xW p l e R s m args below meth c D cl A nL Q cells slots nx (x_up M a (.inl (.boolean, n, .inl (upd f i.toNatClampNeg (vp_nar .boolean x))))) (pc + 1) lv st) : xW p l e R s m args below meth c D cl A nL Q cells slots nx M pc lv (.int x :: .int i :: .ref a :: st) := by
  intro H locs ls hz hS hR hl
  obtain ⟨⟨cA, hA, hh⟩, hAa⟩ := hR a _ he
  have hh : H[a]? = some (vp_cell cA (n, .inl f)) := hh
  refine W.zast F.1.1 F.1.2.1 hh (hA.1 n (fun j => .int (f j))) (fun q => by cases q) (by show ¬ (i < 0 ∨ (arrV _ _ _).slots.size ≤ _); rw [arrV_size]; exact hin) rfl rfl hdg fun H1 e z oq => ?_
  refine k H1 _ ls (z.trans hz) (hS.put z oq hAa) (hR.set hAa ⟨cA, hA, ?_⟩ oq) hl
  show H1[a]? = some (vp_cell cA (n, .inl (upd f i.toNatClampNeg (vp_nar .boolean x))))
  rw [e, vp_cell_i, vp_cell_i, arrV_store]
  congr 2
  funext q
  by_cases hq : q = i.toNatClampNeg
  · subst hq
    simp [updV, upd, vp_nar]
    try rfl
  · simp [updV, upd, vp_nar, hq]
theorem x_aast (F : xF p s m args meth c D cl A cc nL own Ts) {a n v ci : Nat} {r : vw_C} {vs : List Value} {f : Nat → Option Nat} {i : Int32} (hc : cl[ci]? = some r) (hdg : decode cc pc = .ok (.aastore, 1)) (he : M a = some (.inl (.object r.1, n, .inr (.inr (.inr (.inr f)))))) (hv : M v = some (.inr (ci, vs))) (hin : vp_in i n) (k : xW p l e R s m args below meth c D cl A nL Q cells slots nx (x_up M a (.inl (.object r.1, n, .inr (.inr (.inr (.inr (va_up f i.toNatClampNeg (some v)))))))) (pc + 1) lv st) : xW p l e R s m args below meth c D cl A nL Q cells slots nx M pc lv (.ref v :: .int i :: .ref a :: st) := by
  intro H locs ls hz hS hR hl
  have hlt : i.toNatClampNeg < n := Nat.not_le.mp fun q => hin (Or.inr q)
  have h0 : ¬ i < 0 := fun q => hin (Or.inl q)
  obtain ⟨⟨r', hr', cellV, g1, g2, g3, -⟩, -⟩ := hR v _ hv
  obtain ⟨⟨cA, hA, hh⟩, hAa⟩ := hR a _ he
  have hh : H[a]? = some (vp_cell cA (n, .inr (.inr (.inr (.inr f))))) := hh
  have hcls := (F.2.1.1 ci r hc).2
  obtain ⟨kA, comp, k1, k2, k3, -⟩ := hA.2
  have hcomp : comp = D.1 ci := Option.some.inj (k3.symm.trans hcls.1)
  subst hcomp
  obtain ⟨kC, hkC, hkk⟩ := hcls.2
  refine W.aast F.1.1 F.1.2.1 hh (fun q h => by cases h) (fun h => by cases h) k1 k2 rfl hkC ⟨h0, by show _ < (arrV _ _ _).slots.size; rw [arrV_size]; exact hlt⟩ g1 (fun q h => by rw [g3] at h; cases h) (by rw [g2]; exact hkC) (by rw [g2]; exact va_assign ⟨hcls.1, kC, hkC, hkk⟩) rfl rfl hdg fun H1 e z oq => ?_
  refine k H1 _ ls (z.trans hz) (hS.put z oq hAa) (hR.set hAa ⟨cA, hA, ?_⟩ oq) hl
  show H1[a]? = some (vp_cell cA (n, .inr (.inr (.inr (.inr (va_up f i.toNatClampNeg (some v)))))))
  rw [e, vp_cell_q, vp_cell_q, arrV_store]
  congr 2
  funext q
  by_cases hq : q = i.toNatClampNeg
  · subst hq
    simp [updV, va_up, va_rf]
  · simp [updV, va_up, hq]
theorem x_alen (F : xF p s m args meth c D cl A cc nL own Ts) {a : Nat} {ty : FieldType} {x : vp_A} {v : Int32} (hdg : decode cc pc = .ok (.arraylength, 1)) (he : M a = some (.inl (ty, x))) (hv : Int32.ofNat x.1 = v) (k : xW p l e R s m args below meth c D cl A nL Q cells slots nx M (pc + 1) lv (.int v :: st)) : xW p l e R s m args below meth c D cl A nL Q cells slots nx M pc lv (.ref a :: st) := by
  intro H locs ls hz hS hR hl
  obtain ⟨⟨cA, hA, hh⟩, -⟩ := hR a _ he
  exact va_alen (ws := [(a, .inl (cA, x))]) (tys := [(cA, ty)]) F.1.1 F.1.2.1 (x_K1 F.2.1 hA) (x_one hh) 0 0 rfl rfl hv hdg (k H locs ls hz hS hR hl)
theorem x_newa (F : xF p s m args meth c D cl A cc nL own Ts) {atype : ArrayType} {ty : FieldType} {n : Int32} {N' : Nat} {a0 : vp_A} (harr : Cond.arrayClass (newarray.typeOf atype) ∈ Ts) (hty : newarray.typeOf atype = ty) (hdg : decode cc pc = .ok (.newarray atype, 2)) (ha : ∀ cA : ClassId, vp_cell cA a0 = arrV cA N' (fun _ => defaultValue ty)) (hn : ¬ n < 0) (hN : n.toNatClampNeg = N') (hbytes : N' * componentBytes ty ≤ 536870912) (hcells : cells + 1 ≤ R.cells) (hslots : slots + N' ≤ R.slots) (k : xW p l e R s m args below meth c D cl A nL Q (cells + 1) (slots + N') (nx + 1) (x_up M nx (.inl (ty, a0))) (pc + 2) lv (.ref nx :: st)) : xW p l e R s m args below meth c D cl A nL Q cells slots nx M pc lv (.int n :: st) := by
  intro H locs ls hz hS hR hl
  subst hty
  subst hz
  refine va_newaK F.1.1 F.1.2.1 (F.1.2.2.2.2 _ harr) rfl hdg rfl hn hN hbytes hcells hslots rfl fun H1 cA e1 z1 o1 hAr hNm => ?_
  refine k H1 locs ls z1 ⟨Nat.le_trans hS.1 (by omega), fun x h1 h2 => (o1 x (Nat.lt_of_lt_of_le h1 hS.1)).trans (hS.2.1 x h1 h2), hS.2.2⟩ (hR.new (F.2.2.1 _ hS.1) ⟨cA, ⟨hAr, by cases atype <;> exact hNm⟩, ?_⟩ o1) hl
  show H1[H.size]? = some (vp_cell _ _)
  rw [ha]
  exact e1
theorem x_new (F : xF p s m args meth c D cl A cc nL own Ts) {C : String} {T : u_T} {N ci index : Nat} {fs : List Value} (hin : ∀ w ∈ u_ws C T N, w ∈ Ts) (ty : Nat → FieldType) (hty : ∀ k, k < N → parseFieldDescriptor (T k).2.2.1 = some (ty k)) (hcl : Cond.classLink own index C ∈ Ts) (hinst : Cond.instantiable C N ∈ Ts) (hini : Cond.initialized C ∈ Ts) (hc : cl[ci]? = some (C, T, N)) (hdg : decode cc pc = .ok (.new index, 3)) (hfs : ∀ j, j < N → defaultValue (ty j) = vp_V fs j) (hcells : cells + 1 ≤ R.cells) (hslots : slots + N ≤ R.slots) (k : xW p l e R s m args below meth c D cl A nL Q (cells + 1) (slots + N) (nx + 1) (x_up M nx (.inr (ci, fs))) (pc + 3) lv (.ref nx :: st)) : xW p l e R s m args below meth c D cl A nL Q cells slots nx M pc lv st := by
  intro H locs ls hz hS hR hl
  subst hz
  have hKn := F.2.1.1 ci _ hc
  refine W.newcK F.1.1 F.1.2.1 F.1.2.2.2.1 (F.1.2.2.2.2 _ hcl) (F.1.2.2.2.2 _ hinst) (F.1.2.2.2.2 _ hini) rfl hdg hcells hslots hKn.2.1 rfl fun H1 kC hkC e1 z1 o1 => ?_
  exact k H1 locs ls z1 ⟨Nat.le_trans hS.1 (by omega), fun x h1 h2 => (o1 x (Nat.lt_of_lt_of_le h1 hS.1)).trans (hS.2.1 x h1 h2), hS.2.2⟩ (hR.new (F.2.2.1 _ hS.1) ⟨_, hc, (u_born ty F.1.2.2.2.2 hin hKn hkC e1 hty).to hfs⟩ o1) hl
end XH
