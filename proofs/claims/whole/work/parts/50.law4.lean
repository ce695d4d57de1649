/-! THE LAW'S OWN ROWS: the script (a cell that was there before, never written), shifts, a helper's call, the law's end -/
section XLAW
variable {p : Program} {l : Launch} {e : Env} {R : Room} {s : State} {m : MethodId} {args : Array Value} {below : List Frame} {meth : Method} {c : Code} {D : va_G} {cl : List vw_C} {A : Nat → Prop} {nL : Nat} {Q : State → Prop} {cells slots nx : Nat} {M : xH} {pc : Nat} {lv : List (Nat × Value)} {st : List Value}
variable {cc : ByteArray} {own : String} {Ts : List Cond}
theorem x_sld (F : xF p s m args meth c D cl A cc nL own Ts) {b L : Nat} {xs : Nat → Int32} (hX : va_X b L xs s s.heap) (hbl : b < s.heap.size) (hbA : ¬ A b) {i : Nat} (hi : i < L) (hL : L < 2 ^ 31) (hdg : decode cc pc = .ok (.iaload, 1)) (k : xW p l e R s m args below meth c D cl A nL Q cells slots nx M (pc + 1) lv (.int (xs i) :: st)) : xW p l e R s m args below meth c D cl A nL Q cells slots nx M pc lv (.int (nI i) :: .ref b :: st) :=
  fun H locs ls hz hS hR hl => va_sld F.1.1 F.1.2.1 hX hbl hbA hS (vp_in_nI hi hL) hdg (by rw [nI_clamp (by omega)]; exact k H locs ls hz hS hR hl)
theorem x_slen (F : xF p s m args meth c D cl A cc nL own Ts) {b L : Nat} {xs : Nat → Int32} (hX : va_X b L xs s s.heap) (hbl : b < s.heap.size) (hbA : ¬ A b) (hdg : decode cc pc = .ok (.arraylength, 1)) (k : xW p l e R s m args below meth c D cl A nL Q cells slots nx M (pc + 1) lv (.int (nI L) :: st)) : xW p l e R s m args below meth c D cl A nL Q cells slots nx M pc lv (.ref b :: st) :=
  fun H locs ls hz hS hR hl => va_slen F.1.1 F.1.2.1 hX hbl hbA hS hdg (k H locs ls hz hS hR hl)
theorem x_lshl (F : xF p s m args meth c D cl A cc nL own Ts) {x : Int64} {y : Int32} (hdg : decode cc pc = .ok (.lshl, 1)) (k : xW p l e R s m args below meth c D cl A nL Q cells slots nx M (pc + 1) lv (.long (x <<< (y.toInt64 &&& 63)) :: st)) : xW p l e R s m args below meth c D cl A nL Q cells slots nx M pc lv (.int y :: .long x :: st) :=
  fun H locs ls hz hS hR hl => lv_lshl F.1.1 F.1.2.1 hdg rfl (k H locs ls hz hS hR hl)
theorem x_land (F : xF p s m args meth c D cl A cc nL own Ts) {x y : Int64} (hdg : decode cc pc = .ok (.land, 1)) (k : xW p l e R s m args below meth c D cl A nL Q cells slots nx M (pc + 1) lv (.long (x &&& y) :: st)) : xW p l e R s m args below meth c D cl A nL Q cells slots nx M pc lv (.long y :: .long x :: st) :=
  fun H locs ls hz hS hR hl => lv_land F.1.1 F.1.2.1 hdg (k H locs ls hz hS hR hl)
theorem x_lor (F : xF p s m args meth c D cl A cc nL own Ts) {x y : Int64} (hdg : decode cc pc = .ok (.lor, 1)) (k : xW p l e R s m args below meth c D cl A nL Q cells slots nx M (pc + 1) lv (.long (x ||| y) :: st)) : xW p l e R s m args below meth c D cl A nL Q cells slots nx M pc lv (.long y :: .long x :: st) :=
  fun H locs ls hz hS hR hl => lv_lor F.1.1 F.1.2.1 hdg (k H locs ls hz hS hR hl)
end XLAW
section XLAW2
variable {p : Program} {l : Launch} {e : Env} {R : Room} {s : State} {m : MethodId} {args : Array Value} {below : List Frame} {meth : Method} {c : Code} {D : va_G} {A : Nat → Prop} {nL : Nat} {Q : State → Prop} {cells slots nx : Nat} {M : xH} {pc : Nat} {lv : List (Nat × Value)} {st : List Value}
variable {cc : ByteArray} {c0 : Cond}
/-- the call of one of the law's helpers -/
theorem ySH (F : xF p s m args meth c D xcl A cc nL "GoodsTreeLaw" (xw c0)) {y : MethodName} {bytes : ByteArray} {maxL index : Nat} {ret : Option FieldType} {hs : List (Nat × Nat × Nat × Nat)} {rm : Room} {n : Nat} {As stk : List Value} {post : xO → Nat → xH → Prop} (hy : y.cls = "GoodsTreeLaw") (hli : Cond.methodLink "GoodsTreeLaw" index y ∈ xT) (hst : Cond.static y ∈ xT) (hini : Cond.initialized "GoodsTreeLaw" ∈ xT) (hco : Cond.codeWith y bytes maxL ret hs ∈ xT) (hd : y.cls = "GoodsTreeLaw" ∧ y.cls ≠ "java/lang/invoke/MethodHandle" ∧ y.cls ≠ "java/lang/invoke/VarHandle" ∧ (parseMethodDescriptor y.desc).map (fun d => d.parameters.length) = some n) (hdg : decode cc pc = .ok (.invokestatic index, 3)) (hM : xC l xcl y (xw (Cond.codeWith y bytes maxL ret hs)) rm As nx M post) (hn : As.length = n) (hstk : stk = As.reverse ++ st) (hst8 : (st.map fun v => v.category).sum ≤ 8) (hRm : rm.frames + 1 ≤ R.frames ∧ 8 + (maxL + 11) + rm.locals ≤ R.locals) (hf : cells + rm.cells ≤ R.cells ∧ slots + rm.slots ≤ R.slots) (kk : ∀ (r : Option Value) (n' : Nat) (M' : xH), post r n' M' → xW p l e R s m args below meth c D xcl A nL Q (cells + rm.cells) (slots + rm.slots) n' M' (pc + 3) lv (r.toList ++ st)) : xW p l e R s m args below meth c D xcl A nL Q cells slots nx M pc lv stk := by
  refine x_invSH F ?_ rfl hd hdg hRm hM hn hstk hst8 hf kk
  intro w hw
  unfold wsS at hw
  rcases List.mem_append.mp hw with hw | hw
  · simp only [List.mem_cons, List.not_mem_nil, or_false] at hw
    rcases hw with rfl | rfl | rfl
    all_goals first | exact ⟨x_m hli, xT_good hli⟩ | exact ⟨x_m hst, xT_good hst⟩ | exact ⟨x_m hini, xT_good hini⟩
  · exact x_good hco w hw
end XLAW2
theorem x_locs0 {s t : State} {L : List Loc} {k n k' n' : Nat} (h : s.sameButNew t L k n) (hL : ∀ q ∈ L, s.heap.size ≤ q.base) (hk : k ≤ k') (hn : n ≤ n') : s.sameButNew t [] k' n' := by
  obtain ⟨h1, h2, h3, h4, h5, h6⟩ := h.mono hk hn
  refine ⟨h1, h2, h3, h4, h5, fun q cell hq => ?_⟩
  obtain ⟨c', g1, g2, g3, g4⟩ := h6 q cell hq
  refine ⟨c', g1, g2, g3, fun i _ => g4 i (fun z => ?_)⟩
  have h7 := hL _ z
  have h8 := (Array.getElem?_eq_some_iff.mp hq).1
  exact absurd h7 (Nat.not_le.mpr h8)
/-- the law's end -/
theorem x_lawret {p : Program} {l : Launch} {e : Env} {s : State} {m : MethodId} {b : Nat} {below : List Frame} {meth : Method} {c : Code} {D : va_G} {A : Nat → Prop} {Ts : List Cond} {nx : Nat} {M : xH} {pc : Nat} {lv : List (Nat × Value)} {cells slots : Nat} {v : Int32} (F : xF p s m #[Value.ref b] meth c D xcl A code 8 "GoodsTreeLaw" Ts) (hv : v = 1) (hr : meth.sig.returnType = ret) (hA : ∀ q, A q → s.heap.size ≤ q) (hc : cells ≤ 601024) (hs : slots ≤ 7293034) (hdg : decode code pc = .ok (.ireturn, 1)) : xW p l e room_1 s m #[Value.ref b] below meth c D xcl A 8 (lw_Z below #[Value.ref b] s) cells slots nx M pc lv [.int v] := by
  intro H locs ls hz hS hR hl T hT X
  subst hv
  obtain ⟨hx, hb, -⟩ := F.1
  obtain ⟨fs, hret, hrun, hended, hW, hframe⟩ := X.leave (v := some (.int 1)) (hlocks := F.2.2.2.1) (fun h => by rw [hr] at h; cases h)
  have hmeth' : T.vm.method? m = some meth := X.method'
  have hlocks : meth.locks = false := F.2.2.2.1
  refine ⟨T.setFrames fs, ?_, .returned (some (.int 1)), hrun, hended, rfl, ⟨_, rfl⟩, hW, x_locs0 hframe (fun q hq => hA _ (hS.2.2 q hq)) hc hs⟩
  jvm_step X.here [X.here.top, hx, hb, hdg, hmeth', hr, ret, narrow_b1]
  (try refine ⟨rfl, ?_⟩); (try refine ⟨rfl, ?_⟩)
  first | (intro acts; rw [hret _ acts rfl rfl rfl]) | rw [hret _ _ rfl rfl rfl]
  exact Steps.refl _
theorem and15 (x : Int32) : ∃ j, j < 16 ∧ x &&& nI 15 = nI j := by
  refine ⟨(x &&& nI 15).toBitVec.toNat, ?_, ?_⟩
  · have h : (x &&& nI 15).toBitVec = x.toBitVec &&& 15#32 := rfl
    rw [h, BitVec.toNat_and]
    exact Nat.lt_of_le_of_lt Nat.and_le_right (by decide)
  · show x &&& nI 15 = Int32.ofNat _
    apply Int32.toBitVec_inj.mp
    show _ = BitVec.ofNat 32 _
    rw [BitVec.ofNat_toNat, BitVec.setWidth_eq]
theorem RWk_g {M : xH} {g a : Nat} {k : Int32} (h : RWk M g a k) : ∃ fs, M g = some (.inr (5, fs)) := by
  obtain ⟨γ, sg, sn, pr, fk, fp, rws, cd, ds, wc, wd, nn, nE, nC, nK, nO, ln, lF, lC, lT, lO, fn, fC, fP, ak, ac, pt, rw, ⟨⟨f, h0, -⟩, -⟩, -, -⟩ := h
  exact ⟨_, h0⟩
theorem RWk_a {M : xH} {g a : Nat} {k : Int32} (h : RWk M g a k) : ∃ fs, M a = some (.inr (6, fs)) := by
  obtain ⟨γ, sg, sn, pr, fk, fp, rws, cd, ds, wc, wd, nn, nE, nC, nK, nO, ln, lF, lC, lT, lO, fn, fC, fP, ak, ac, pt, rw, -, ⟨h0, -⟩, -⟩ := h
  exact ⟨_, h0⟩
theorem RWk_th {l : Launch} {nx : Nat} {M : xH} {g a : Nat} {k : Int32} (h : RWk M g a k) : xC l xcl yM_thrown (xw (Cond.code yM_thrown bM_thrown 1 (some .int))) rmM [.ref a] nx M (x_is (some (.int k)) nx M) := by
  obtain ⟨γ, sg, sn, pr, fk, fp, rws, cd, ds, wc, wd, nn, nE, nC, nK, nO, ln, lF, lC, lT, lO, fn, fC, fP, ak, ac, pt, rw, -, hT, -⟩ := h
  exact xC.up (cM_thrown l nx M a k sg sn pr fk fp rws cd ds wc wd nn nE nC nK nO ln lF lC lT lO fn fC fP ak ac pt hT) (Nat.le_of_ble_eq_true rfl) (Nat.le_of_ble_eq_true rfl) (Nat.le_of_ble_eq_true rfl) (Nat.le_of_ble_eq_true rfl)
theorem RW_0 {M : xH} {g a : Nat} (hG : gIs M g γ00) (hT : mAt M a (nI 0) z32 0 0 (nI 0) (-1) z32 z64 z32 z32 z64 0 z32 z64 z32 z64 0 z32 z64 z32 z64 0 z64 z32 z64 0 z32) : RWk M g a (nI 0) := by
  refine ⟨γ00, z32, 0, 0, nI 0, -1, z32, z64, z32, z32, z64, 0, z32, z64, z32, z64, 0, z32, z64, z32, z64, 0, z64, z32, z64, 0, z32, fun _ => 0, hG, hT, ⟨rfl, by omega⟩, ⟨rfl, rfl, rfl, fun _ => 0, fun i hi => absurd hi (Nat.not_lt_zero _), fun i hi => absurd hi (Nat.not_lt_zero _), fun i hi => absurd hi (Nat.not_lt_zero _)⟩, fun i _ => ⟨rfl, Nat.zero_le _⟩, fun e _ => ⟨rfl, fun _ => 0, fun _ => 0, fun _ => 0, fun _ => 0, ⟨Nat.zero_le _, fun i hi => absurd hi (Nat.not_lt_zero _), fun i hi => absurd hi (Nat.not_lt_zero _), fun i hi => absurd hi (Nat.not_lt_zero _), rfl⟩, fun i hi => absurd hi (Nat.not_lt_zero _)⟩, rfl, rfl, rfl⟩
