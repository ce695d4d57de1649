theorem x_noB {a b : String} {args' : Array Value} {u : State} (h : (Cond.not (.castable a b)).before args' u = true) : va_Nw (.not (.castable a b)) u := by
  have hv := Cond.holds_not_iff.mp h
  refine Cond.holds_not_iff.mpr ?_
  simp only [Cond.value] at hv ⊢
  exact hv
theorem x_str {b : Nat} {s : State} {k : Nat} {tx : String} {d : ClassId} (hd : s.vm.findClass "GoodsTree" = some d) (h : (Cond.stringRef "GoodsTree" k tx).before #[Value.ref b] s = true) : ∃ a, vk_R "GoodsTree" k tx a s := by
  have h0 : (Cond.stringRef "GoodsTree" k tx).before #[] s = true := h
  obtain ⟨-, -, -, a, -, -, -, -, -, hev⟩ := Cond.stringRef_spec hd h0
  exact ⟨a, h0, hev⟩
set_option maxRecDepth 100000 in
theorem x_E0 {b : Nat} {s : State} (hts : ∀ w ∈ lw_tbl, w.before #[Value.ref b] s = true) (hgv : (Jvm.Cond.and given_1 narrow_1).before #[Value.ref b] s = true) : x_E (fun q => s.heap.size ≤ q) s s.heap := by
  have hn := flat_of_before _ hgv
  have h : ∀ w ∈ tables_1, w.before #[Value.ref b] s = true := fun w hw => hts w (List.mem_append_right _ hw)
  obtain ⟨cG, kG, hfG, -⟩ := Cond.instantiable_spec (hts _ (List.mem_filter.mp kqG).1)
  refine ⟨⟨va_Nw.of rfl (h _ (List.mem_of_getElem? (i := 25) (by decide +kernel))), va_Nw.of rfl (h _ (List.mem_of_getElem? (i := 83) (by decide +kernel))), va_Nw.of rfl (h _ (List.mem_of_getElem? (i := 98) (by decide +kernel))), va_Nw.of rfl (h _ (List.mem_of_getElem? (i := 374) (by decide +kernel))), va_Nw.of rfl (h _ (List.mem_of_getElem? (i := 463) (by decide +kernel))), va_Nw.of rfl (h _ (List.mem_of_getElem? (i := 502) (by decide +kernel))), va_Nw.of rfl (h _ (List.mem_of_getElem? (i := 375) (by decide +kernel))), va_Nw.of rfl (h _ (List.mem_of_getElem? (i := 376) (by decide +kernel))), va_Nw.of rfl (h _ (List.mem_of_getElem? (i := 377) (by decide +kernel))), va_Nw.of rfl (h _ (List.mem_of_getElem? (i := 378) (by decide +kernel))), va_Nw.of rfl (h _ (List.mem_of_getElem? (i := 379) (by decide +kernel))), va_Nw.of rfl (h _ (List.mem_of_getElem? (i := 380) (by decide +kernel))), (x_noB (hn (.not (.castable "java/lang/IllegalStateException" "java/lang/IllegalArgumentException")) (by decide +kernel)))⟩, va_AO.of (h _ (List.mem_of_getElem? (i := 54) (by decide +kernel))), ?_, x_Zs.of (h _ (List.mem_of_getElem? (i := 399) (by decide +kernel))) (hn _ (by decide +kernel)) (fun a h1 => by omega), x_Zs.of (h _ (List.mem_of_getElem? (i := 401) (by decide +kernel))) (hn _ (by decide +kernel)) (fun a h1 => by omega)⟩
  intro q hq
  simp only [x_St, List.mem_cons, List.not_mem_nil, or_false] at hq
  rcases hq with rfl | rfl | rfl | rfl | rfl | rfl | rfl | rfl | rfl | rfl
  · exact x_str hfG (h _ (List.mem_of_getElem? (i := 413) (by decide +kernel)))
  · exact x_str hfG (h _ (List.mem_of_getElem? (i := 470) (by decide +kernel)))
  · exact x_str hfG (h _ (List.mem_of_getElem? (i := 491) (by decide +kernel)))
  · exact x_str hfG (h _ (List.mem_of_getElem? (i := 509) (by decide +kernel)))
  · exact x_str hfG (h _ (List.mem_of_getElem? (i := 516) (by decide +kernel)))
  · exact x_str hfG (h _ (List.mem_of_getElem? (i := 528) (by decide +kernel)))
  · exact x_str hfG (h _ (List.mem_of_getElem? (i := 551) (by decide +kernel)))
  · exact x_str hfG (h _ (List.mem_of_getElem? (i := 556) (by decide +kernel)))
  · exact x_str hfG (h _ (List.mem_of_getElem? (i := 587) (by decide +kernel)))
  · exact x_str hfG (h _ (List.mem_of_getElem? (i := 627) (by decide +kernel)))
theorem x_D0 {b : Nat} {s : State} (hts : ∀ w ∈ lw_tbl, w.before #[Value.ref b] s = true) : ∃ D : va_G, va_K D xcl [] s := by
  have h := xT_before hts
  obtain ⟨dF, iF, hF⟩ := u_known (C := RF) (T := FF) (N := 3) h inF (h _ kqF)
  obtain ⟨dP, iP, hP⟩ := u_known (C := RP) (T := FP) (N := 5) h inP (h _ kqP)
  obtain ⟨dR, iR, hR⟩ := u_known (C := RR) (T := FR) (N := 7) h inR (h _ kqR)
  obtain ⟨dT, iT, hT⟩ := u_known (C := RT) (T := FT) (N := 8) h inT (h _ kqT)
  obtain ⟨dG, iG, hG⟩ := u_known (C := RG) (T := FG) (N := 7) h inG (h _ kqG)
  obtain ⟨dM, iM, hM⟩ := u_known (C := RM) (T := FM) (N := 27) h inM (h _ kqM)
  refine ⟨(fun c => match c with
    | 0 => dF
    | 1 => dF
    | 2 => dP
    | 3 => dR
    | 4 => dT
    | 5 => dG
    | _ => dM, fun c => match c with
    | 0 => iF
    | 1 => iF
    | 2 => iP
    | 3 => iR
    | 4 => iT
    | 5 => iG
    | _ => iM), fun c q hq => ?_, fun k q hk => by simp at hk⟩
  rcases c with _ | _ | _ | _ | _ | _ | _ | c
  · cases hq; exact hF
  · cases hq; exact hF
  · cases hq; exact hP
  · cases hq; exact hR
  · cases hq; exact hT
  · cases hq; exact hG
  · cases hq; exact hM
  · simp [xcl] at hq
theorem x_w0 {b : Nat} {s : State} (hts : ∀ w ∈ lw_tbl, w.before #[Value.ref b] s = true) : ∀ w ∈ xw (Cond.initialized "GoodsTreeLaw"), w.before #[Value.ref b] s = true := fun w hw => by
  rcases List.mem_cons.mp hw with rfl | hw
  · exact xT_before hts _ knL
  · exact xT_before hts w hw
set_option maxHeartbeats 4000000 in
set_option maxRecDepth 100000 in
/-- from the entry, for every script of at most 3584 ints, the law comes to its end with true -/
theorem whole_start {p : Program} {e : Env} {s : State} {m : MethodId} {below : List Frame} {meth : Method} {c : Code} (l : Launch) (hfl : x_fl l) {b L : Nat} {xs : Nat → Int32} (hL : L ≤ 3584) (C0 : lw_At p s m meth c b L xs) : W p l e room_1 s m #[Value.ref b] below meth c s.heap [] 0 0 (lw_Z below #[Value.ref b] s) (entryFrame m ([Value.ref b] : List Value).toArray 8) := by
  obtain ⟨hx, hb, hr, hml, hown, hts, hX, hbl, hlocks, hgv⟩ := C0
  obtain ⟨D, hK⟩ := x_D0 hts
  have F : xF p s m #[Value.ref b] meth c D xcl (fun q => s.heap.size ≤ q) code 8 "GoodsTreeLaw" (xw (Cond.initialized "GoodsTreeLaw")) := ⟨⟨hx, hb, hml, hown, x_w0 hts⟩, hK, fun q h => h, hlocks, x_E0 hts hgv⟩
  have key : ∀ h0 : Nat, h0 = s.heap.size → xW p l e room_1 s m #[Value.ref b] below meth c D xcl (fun q => s.heap.size ≤ q) 8 (lw_Z below #[Value.ref b] s) 0 0 h0 (fun _ => none) 0 [(0, .ref b)] [] := by
    intro h0 hh0
    refine x_new F (ci := 5) (fs := [.null, .null, .null, .null, .null, .null, .int (nI (0))]) (x_in inG) tG tG_ok (x_m klL_8) (x_m kqG) (x_m knG) rfl dL_law_0 (by decide) (Nat.le_of_ble_eq_true rfl) (Nat.le_of_ble_eq_true rfl) ?_
    show xW p l e room_1 s m #[Value.ref b] below meth c D xcl (fun q => s.heap.size ≤ q) 8 (lw_Z below #[Value.ref b] s) (1) (7) (h0 + 1) (x_up (fun _ => none) (h0) (.inr (5, [.null, .null, .null, .null, .null, .null, .int (nI (0))]))) 3 [(0, .ref (b))] [.ref (h0)]
    refine x_dup F dL_law_3 rfl ?_
    refine yIr (n := 0) (As := []) (a := h0) F kmL_49 kiG_init knG kcG_init rfl (by decide +kernel) dL_law_4 (cG_init l (h0 + 1) (x_up (fun _ => none) (h0) (.inr (5, [.null, .null, .null, .null, .null, .null, .int (nI (0))]))) (h0) (by omega) x_up_s) rfl rfl (Nat.le_of_ble_eq_true rfl) ⟨Nat.le_of_ble_eq_true rfl, Nat.le_of_ble_eq_true rfl⟩ ⟨Nat.le_of_ble_eq_true rfl, Nat.le_of_ble_eq_true rfl⟩ (fun r' n' M901 hp => ?_)
    obtain ⟨hr', hn', hI901, hf901⟩ := hp
    rw [hn', hr']
    rw [show h0 + 46 = h0 + 46 by omega]
    show xW p l e room_1 s m #[Value.ref b] below meth c D xcl (fun q => s.heap.size ≤ q) 8 (lw_Z below #[Value.ref b] s) (46) (2308) (h0 + 46) M901 7 [(0, .ref (b))] [.ref (h0)]
    refine x_astore_n F [(1, .ref (h0)), (0, .ref (b))] dL_law_7 rfl (by decide) rfl ?_
    refine x_new F (ci := 6) (fs := [.int (nI (0)), .null, .int (nI (0)), .int (nI (0)), .int (nI (0)), .int (nI (0)), .null, .null, .null, .null, .null, .int (nI (0)), .null, .null, .null, .null, .int (nI (0)), .null, .null, .null, .null, .int (nI (0)), .null, .null, .null, .int (nI (0)), .null]) (x_in inM) tM tM_ok (x_m klL_50) (x_m kqM) (x_m knM) rfl dL_law_8 (by decide) (Nat.le_of_ble_eq_true rfl) (Nat.le_of_ble_eq_true rfl) ?_
    show xW p l e room_1 s m #[Value.ref b] below meth c D xcl (fun q => s.heap.size ≤ q) 8 (lw_Z below #[Value.ref b] s) (47) (2335) (h0 + 47) (x_up M901 (h0 + 46) (.inr (6, [.int (nI (0)), .null, .int (nI (0)), .int (nI (0)), .int (nI (0)), .int (nI (0)), .null, .null, .null, .null, .null, .int (nI (0)), .null, .null, .null, .null, .int (nI (0)), .null, .null, .null, .null, .int (nI (0)), .null, .null, .null, .int (nI (0)), .null]))) 11 [(1, .ref (h0)), (0, .ref (b))] [.ref (h0 + 46)]
    refine x_dup F dL_law_11 rfl ?_
    refine yIr (n := 0) (As := []) (a := h0 + 46) F kmL_52 kiM_init knM kcM_init rfl (by decide +kernel) dL_law_12 (cM_init l (h0 + 47) (x_up M901 (h0 + 46) (.inr (6, [.int (nI (0)), .null, .int (nI (0)), .int (nI (0)), .int (nI (0)), .int (nI (0)), .null, .null, .null, .null, .null, .int (nI (0)), .null, .null, .null, .null, .int (nI (0)), .null, .null, .null, .null, .int (nI (0)), .null, .null, .null, .int (nI (0)), .null]))) (h0 + 46) (by omega) x_up_s) rfl rfl (Nat.le_of_ble_eq_true rfl) ⟨Nat.le_of_ble_eq_true rfl, Nat.le_of_ble_eq_true rfl⟩ ⟨Nat.le_of_ble_eq_true rfl, Nat.le_of_ble_eq_true rfl⟩ (fun r' n' M902 hp => ?_)
    obtain ⟨hr', hn', hI902, hf902⟩ := hp
    rw [hn', hr']
    rw [show h0 + 46 + 19 = h0 + 65 by omega]
    show xW p l e room_1 s m #[Value.ref b] below meth c D xcl (fun q => s.heap.size ≤ q) 8 (lw_Z below #[Value.ref b] s) (65) (4305) (h0 + 65) M902 15 [(1, .ref (h0)), (0, .ref (b))] [.ref (h0 + 46)]
    refine x_astore_n F [(2, .ref (h0 + 46)), (1, .ref (h0)), (0, .ref (b))] dL_law_15 rfl (by decide) rfl ?_
    refine x_iconst F (v := nI (1)) dL_law_16 (by decide) ?_
    refine x_newa F (atype := .long) (N' := 1) (a0 := (1, .inr (.inl (z64)))) (x_m ka_long) rfl dL_law_17 (fun _ => rfl) (by decide) (by decide) (by decide) (Nat.le_of_ble_eq_true rfl) (Nat.le_of_ble_eq_true rfl) ?_
    show xW p l e room_1 s m #[Value.ref b] below meth c D xcl (fun q => s.heap.size ≤ q) 8 (lw_Z below #[Value.ref b] s) (66) (4306) (h0 + 66) (x_up M902 (h0 + 65) (.inl (.long, 1, .inr (.inl (z64))))) 19 [(2, .ref (h0 + 46)), (1, .ref (h0)), (0, .ref (b))] [.ref (h0 + 65)]
    refine x_astore_n F [(3, .ref (h0 + 65)), (2, .ref (h0 + 46)), (1, .ref (h0)), (0, .ref (b))] dL_law_19 rfl (by decide) rfl ?_
    refine x_iconst F (v := nI (0)) dL_law_20 (by decide) ?_
    refine x_istore F [(4, .int (nI (0))), (3, .ref (h0 + 65)), (2, .ref (h0 + 46)), (1, .ref (h0)), (0, .ref (b))] dL_law_21 (by decide) rfl ?_
    refine xW.sub [0, 4, 3, 2, 1] rfl ?_
    exact lw_loop hfl F hX hbl hL (g := h0) (a := h0 + 46) (o := h0 + 65) (by omega) (by omega) hr (L / 7) 0 _ _ _ _ z64 (by omega) (by omega) (by omega) (by omega) ⟨_, RW_0 (gIs_fr hI901 (fun q h1 h2 => (x_up_n (by omega)).trans ((hf902 _ (by omega)).trans (x_up_n (by omega))))) (mAt_fr hI902 (fun q h1 h2 => x_up_n (by omega)))⟩ x_up_s
  rw [lg_entry_eq]
  exact key _ rfl s.heap [] _ rfl va_S.rf (fun a e ha => by cases ha) (lv_entry [.ref b] (Nat.le_of_ble_eq_true rfl))
