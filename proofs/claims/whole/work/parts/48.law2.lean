set_option maxHeartbeats 2000000 in
set_option maxRecDepth 100000 in
theorem cH_read (l : Launch) (nx : Nat) (M : xH) (g o : Nat) (G : gS → Prop) (fs : List Value) (f1 : Nat → Int64) (v : Int32)  (hg0 : M g = some (.inr (5, fs))) (ho : M o = some (.inl (.long, 1, .inr (.inl f1)))) (hog : o < g ∨ g + 45 < o) (hc : xC l xcl yG_read (xw (Cond.code yG_read bG_read 3 (some .int))) rmC [.ref g] nx M (fun r n' M' => r = some (.int v) ∧ n' = nx ∧ (∃ γ2, G γ2 ∧ gIs M' g γ2) ∧ ∀ b, (b < g ∨ g + 45 < b) → M' b = M b)) : xC l xcl yL_read (xw (Cond.codeWith yL_read bL_read 3 (some .int) [(0, 8, 11, 13)])) ({ frames := 9, cells := 0, slots := 0, locals := 230 } : Room) [.ref g, .ref o] nx M (fun r n' M' => r = some (.int (nI 0)) ∧ n' = nx ∧ (∃ f2 : Nat → Int64, M' o = some (.inl (.long, 1, .inr (.inl f2))) ∧ f2 0 = v.toInt64) ∧ (∀ b, (b < g ∨ g + 45 < b) → b ≠ o → M' b = M b) ∧ ∃ γ2, G γ2 ∧ gIs M' g γ2) := by
  refine xC.ofH (by decide) rfl (Nat.le_of_ble_eq_true rfl) ?_
  intro p e s m args below meth c D F hr htab
  refine x_aload_n F 1 dL_read_0 rfl rfl ?_
  refine x_iconst F (v := nI (0)) dL_read_1 (by decide) ?_
  refine x_aload_n F 0 dL_read_2 rfl rfl ?_
  refine yVr (n := 0) (As := []) (ci := 5) F kmL_7 kiG_read ksG_read knG kcG_read (by decide +kernel) dL_read_3 (hc) rfl hg0 rfl rfl (Nat.le_of_ble_eq_true rfl) ⟨Nat.le_of_ble_eq_true rfl, Nat.le_of_ble_eq_true rfl⟩ ⟨Nat.le_of_ble_eq_true rfl, Nat.le_of_ble_eq_true rfl⟩ (fun r' n' M1 hp => ?_)
  obtain ⟨hr', hn', ⟨γ2, hγ2, hG1⟩, hf1⟩ := hp
  rw [hn', hr']
  show xW p l e ({ frames := 9, cells := 0, slots := 0, locals := 230 } : Room) s m args below meth c D xcl (x_A M nx) 3 (MQ below (x_Q D xcl (x_A M nx) (fun r n' M' => r = some (.int (nI 0)) ∧ n' = nx ∧ (∃ f2 : Nat → Int64, M' o = some (.inl (.long, 1, .inr (.inl f2))) ∧ f2 0 = v.toInt64) ∧ (∀ b, (b < g ∨ g + 45 < b) → b ≠ o → M' b = M b) ∧ ∃ γ2, G γ2 ∧ gIs M' g γ2)) args s 0 0 (x_A M nx)) 0 0 (nx) M1 6 [(0, .ref (g)), (1, .ref (o))] [.int (v), .int (nI (0)), .ref (o)]
  refine x_i2l F dL_read_6 ?_
  refine x_last F dL_read_7 ((hf1 _ (by omega)).trans ho) (pk_in (0) (1) (by omega)) ?_
  rw [nI_clamp (show 0 < 2 ^ 31 by omega)]
  show xW p l e ({ frames := 9, cells := 0, slots := 0, locals := 230 } : Room) s m args below meth c D xcl (x_A M nx) 3 (MQ below (x_Q D xcl (x_A M nx) (fun r n' M' => r = some (.int (nI 0)) ∧ n' = nx ∧ (∃ f2 : Nat → Int64, M' o = some (.inl (.long, 1, .inr (.inl f2))) ∧ f2 0 = v.toInt64) ∧ (∀ b, (b < g ∨ g + 45 < b) → b ≠ o → M' b = M b) ∧ ∃ γ2, G γ2 ∧ gIs M' g γ2)) args s 0 0 (x_A M nx)) 0 0 (nx) (x_up M1 (o) (.inl (.long, 1, .inr (.inl (vp_updL (f1) (0) ((v).toInt64)))))) 8 [(0, .ref (g)), (1, .ref (o))] []
  refine x_goto F (tgt := 14) dL_read_8 (by decide) ?_
  refine x_iconst F (v := nI (0)) dL_read_14 (by decide) ?_
  exact x_iret F hr dL_read_15 (⟨rfl, rfl, ⟨_, x_up_s, rfl⟩, fun b h1 h2 => (x_up_n h2).trans (hf1 b h1), γ2, hγ2, gIs_fr hG1 (fun b h1 h2 => x_up_n (by omega))⟩)
set_option maxHeartbeats 2000000 in
set_option maxRecDepth 100000 in
theorem cH_readJS (l : Launch) (nx : Nat) (M : xH) (g o : Nat) (fs : List Value) (fr lo : Nat) (P0 : Nat → xH → Prop)  (hg0 : M g = some (.inr (5, fs))) (hfr : fr ≤ 8) (hlo : lo ≤ 200) (hc : xT_ l xcl yG_read (xw (Cond.code yG_read bG_read 3 (some .int))) ({ frames := fr, cells := 1, slots := 6, locals := lo } : Room) [.ref g] nx M "java/lang/IllegalStateException" P0) : xC l xcl yL_read (xw (Cond.codeWith yL_read bL_read 3 (some .int) [(0, 8, 11, 13)])) ({ frames := 9, cells := 1, slots := 6, locals := 230 } : Room) [.ref g, .ref o] nx M (fun r n' M' => r = some (.int (nI 1)) ∧ P0 n' M') := by
  refine xC.ofH (by decide) rfl (Nat.le_of_ble_eq_true rfl) ?_
  intro p e s m args below meth c D F hr htab
  refine x_aload_n F 1 dL_read_0 rfl rfl ?_
  refine x_iconst F (v := nI (0)) dL_read_1 (by decide) ?_
  refine x_aload_n F 0 dL_read_2 rfl rfl ?_
  refine x_invVC (n := 0) (As := []) (ci := 5) (C := "GoodsTree") (K := "java/lang/IllegalStateException") F (x_gV kmL_7 kiG_read ksG_read knG kcG_read) rfl (by decide +kernel) rfl dL_read_3 ⟨by show fr + 1 ≤ 9; omega, by show 8 + (3 + 11) + lo ≤ 230; omega⟩ hc hg0 rfl rfl (Nat.le_of_ble_eq_true rfl) ⟨Nat.le_refl 1, Nat.le_refl 6⟩ [] ⟨0, 8, 11, 13⟩ [] htab (by decide) (by decide) (x_m klL_13) (va_Nw.use rfl (F.2.2.2.2.1.2.2.2.1)) (fun z hz => by cases hz) (fun x n' M' hp => ?_)
  show xW p l e ({ frames := 9, cells := 1, slots := 6, locals := 230 } : Room) s m args below meth c D xcl (x_A M nx) 3 (MQ below (x_Q D xcl (x_A M nx) (fun r n' M' => r = some (.int (nI 1)) ∧ P0 n' M')) args s 1 6 (x_A M nx)) 1 6 (n') M' 11 [(0, .ref (g)), (1, .ref (o))] [.ref (x)]
  refine x_astore_n F [(2, .ref (x)), (0, .ref (g)), (1, .ref (o))] dL_read_11 rfl (by decide) rfl ?_
  refine x_iconst F (v := nI (1)) dL_read_12 (by decide) ?_
  exact x_iret F hr dL_read_13 (⟨rfl, hp⟩)
set_option maxHeartbeats 2000000 in
set_option maxRecDepth 100000 in
theorem cH_row (l : Launch) (nx : Nat) (M : xH) (g o : Nat) (γ2 : gS) (fs : List Value) (f1 : Nat → Int64) (v : Int64) (p0 p1 : Int32) (hg0 : M g = some (.inr (5, fs))) (ho : M o = some (.inl (.long, 1, .inr (.inl f1)))) (hog : o < g ∨ g + 45 < o) (hc : xC l xcl yG_row (xw (Cond.code yG_row bG_row 4 (some .long))) rmC [.ref g, .int (p0), .int (p1)] nx M (gPost (some (.long v)) nx M g γ2)) : xC l xcl yL_row (xw (Cond.codeWith yL_row bL_row 5 (some .int) [(0, 9, 12, 19)])) ({ frames := 9, cells := 0, slots := 0, locals := 230 } : Room) [.ref g, .int (p0), .int (p1), .ref o] nx M (fun r n' M' => r = some (.int (nI 0)) ∧ n' = nx ∧ (∃ f2 : Nat → Int64, M' o = some (.inl (.long, 1, .inr (.inl f2))) ∧ f2 0 = v) ∧ (∀ b, (b < g ∨ g + 45 < b) → b ≠ o → M' b = M b) ∧ gIs M' g γ2) := by
  refine xC.ofH (by decide) rfl (Nat.le_of_ble_eq_true rfl) ?_
  intro p e s m args below meth c D F hr htab
  refine x_aload_n F 3 dL_row_0 rfl rfl ?_
  refine x_iconst F (v := nI (0)) dL_row_1 (by decide) ?_
  refine x_aload_n F 0 dL_row_2 rfl rfl ?_
  refine x_iload_n F 1 dL_row_3 rfl rfl ?_
  refine x_iload_n F 2 dL_row_4 rfl rfl ?_
  refine yVr (n := 2) (As := [.int (p0), .int (p1)]) (ci := 5) F kmL_15 kiG_row ksG_row knG kcG_row (by decide +kernel) dL_row_5 (hc) rfl hg0 rfl rfl (Nat.le_of_ble_eq_true rfl) ⟨Nat.le_of_ble_eq_true rfl, Nat.le_of_ble_eq_true rfl⟩ ⟨Nat.le_of_ble_eq_true rfl, Nat.le_of_ble_eq_true rfl⟩ (fun r' n' M1 hp => ?_)
  obtain ⟨hr', hn', hG1, hf1⟩ := hp
  rw [hn', hr']
  show xW p l e ({ frames := 9, cells := 0, slots := 0, locals := 230 } : Room) s m args below meth c D xcl (x_A M nx) 5 (MQ below (x_Q D xcl (x_A M nx) (fun r n' M' => r = some (.int (nI 0)) ∧ n' = nx ∧ (∃ f2 : Nat → Int64, M' o = some (.inl (.long, 1, .inr (.inl f2))) ∧ f2 0 = v) ∧ (∀ b, (b < g ∨ g + 45 < b) → b ≠ o → M' b = M b) ∧ gIs M' g γ2)) args s 0 0 (x_A M nx)) 0 0 (nx) M1 8 [(0, .ref (g)), (1, .int (p0)), (2, .int (p1)), (3, .ref (o))] [.long (v), .int (nI (0)), .ref (o)]
  refine x_last F dL_row_8 ((hf1 _ (by omega)).trans ho) (pk_in (0) (1) (by omega)) ?_
  rw [nI_clamp (show 0 < 2 ^ 31 by omega)]
  show xW p l e ({ frames := 9, cells := 0, slots := 0, locals := 230 } : Room) s m args below meth c D xcl (x_A M nx) 5 (MQ below (x_Q D xcl (x_A M nx) (fun r n' M' => r = some (.int (nI 0)) ∧ n' = nx ∧ (∃ f2 : Nat → Int64, M' o = some (.inl (.long, 1, .inr (.inl f2))) ∧ f2 0 = v) ∧ (∀ b, (b < g ∨ g + 45 < b) → b ≠ o → M' b = M b) ∧ gIs M' g γ2)) args s 0 0 (x_A M nx)) 0 0 (nx) (x_up M1 (o) (.inl (.long, 1, .inr (.inl (vp_updL (f1) (0) (v)))))) 9 [(0, .ref (g)), (1, .int (p0)), (2, .int (p1)), (3, .ref (o))] []
  refine x_goto F (tgt := 16) dL_row_9 (by decide) ?_
  refine x_iconst F (v := nI (0)) dL_row_16 (by decide) ?_
  exact x_iret F hr dL_row_17 (⟨rfl, rfl, ⟨_, x_up_s, rfl⟩, fun b h1 h2 => (x_up_n h2).trans (hf1 b h1), gIs_fr hG1 (fun b h1 h2 => x_up_n (by omega))⟩)
set_option maxHeartbeats 2000000 in
set_option maxRecDepth 100000 in
theorem cH_rowJI (l : Launch) (nx : Nat) (M : xH) (g o : Nat) (fs : List Value) (fr lo : Nat) (P0 : Nat → xH → Prop) (p0 p1 : Int32) (hg0 : M g = some (.inr (5, fs))) (hfr : fr ≤ 8) (hlo : lo ≤ 200) (hc : xT_ l xcl yG_row (xw (Cond.code yG_row bG_row 4 (some .long))) ({ frames := fr, cells := 1, slots := 6, locals := lo } : Room) [.ref g, .int (p0), .int (p1)] nx M "java/lang/IndexOutOfBoundsException" P0) : xC l xcl yL_row (xw (Cond.codeWith yL_row bL_row 5 (some .int) [(0, 9, 12, 19)])) ({ frames := 9, cells := 1, slots := 6, locals := 230 } : Room) [.ref g, .int (p0), .int (p1), .ref o] nx M (fun r n' M' => r = some (.int (nI 1)) ∧ P0 n' M') := by
  refine xC.ofH (by decide) rfl (Nat.le_of_ble_eq_true rfl) ?_
  intro p e s m args below meth c D F hr htab
  refine x_aload_n F 3 dL_row_0 rfl rfl ?_
  refine x_iconst F (v := nI (0)) dL_row_1 (by decide) ?_
  refine x_aload_n F 0 dL_row_2 rfl rfl ?_
  refine x_iload_n F 1 dL_row_3 rfl rfl ?_
  refine x_iload_n F 2 dL_row_4 rfl rfl ?_
  refine x_invVC (n := 2) (As := [.int (p0), .int (p1)]) (ci := 5) (C := "GoodsTree") (K := "java/lang/IndexOutOfBoundsException") F (x_gV kmL_15 kiG_row ksG_row knG kcG_row) rfl (by decide +kernel) rfl dL_row_5 ⟨by show fr + 1 ≤ 9; omega, by show 8 + (4 + 11) + lo ≤ 230; omega⟩ hc hg0 rfl rfl (Nat.le_of_ble_eq_true rfl) ⟨Nat.le_refl 1, Nat.le_refl 6⟩ [] ⟨0, 9, 12, 19⟩ [] htab (by decide) (by decide) (x_m klL_19) (va_Nw.use rfl (F.2.2.2.2.1.2.2.2.2.1)) (fun z hz => by cases hz) (fun x n' M' hp => ?_)
  show xW p l e ({ frames := 9, cells := 1, slots := 6, locals := 230 } : Room) s m args below meth c D xcl (x_A M nx) 5 (MQ below (x_Q D xcl (x_A M nx) (fun r n' M' => r = some (.int (nI 1)) ∧ P0 n' M')) args s 1 6 (x_A M nx)) 1 6 (n') M' 12 [(0, .ref (g)), (1, .int (p0)), (2, .int (p1)), (3, .ref (o))] [.ref (x)]
  refine x_astore F [(4, .ref (x)), (0, .ref (g)), (1, .int (p0)), (2, .int (p1)), (3, .ref (o))] dL_row_12 (by decide) rfl ?_
  refine x_iconst F (v := nI (1)) dL_row_14 (by decide) ?_
  exact x_iret F hr dL_row_15 (⟨rfl, hp⟩)
set_option maxHeartbeats 2000000 in
set_option maxRecDepth 100000 in
theorem cH_note (l : Launch) (nx : Nat) (M : xH) (g o : Nat) (γ2 : gS) (fs : List Value) (f1 : Nat → Int64) (v : Int32) (p0 : Int64) (p1 : Int32) (p2 : Int64) (hg0 : M g = some (.inr (5, fs))) (ho : M o = some (.inl (.long, 1, .inr (.inl f1)))) (hog : o < g ∨ g + 45 < o) (hc : xC l xcl yG_note (xw (Cond.code yG_note bG_note 7 (some .int))) rmC [.ref g, .long (p0), .int (p1), .long (p2)] nx M (gPost (some (.int v)) nx M g γ2)) : xC l xcl yL_note (xw (Cond.codeWith yL_note bL_note 8 (some .int) [(0, 13, 16, 25), (0, 13, 20, 13)])) ({ frames := 9, cells := 0, slots := 0, locals := 230 } : Room) [.ref g, .long (p0), .int (p1), .long (p2), .ref o] nx M (fun r n' M' => r = some (.int (nI 0)) ∧ n' = nx ∧ (∃ f2 : Nat → Int64, M' o = some (.inl (.long, 1, .inr (.inl f2))) ∧ f2 0 = v.toInt64) ∧ (∀ b, (b < g ∨ g + 45 < b) → b ≠ o → M' b = M b) ∧ gIs M' g γ2) := by
  refine xC.ofH (by decide) rfl (Nat.le_of_ble_eq_true rfl) ?_
  intro p e s m args below meth c D F hr htab
  refine x_aload F 4 dL_note_0 rfl ?_
  refine x_iconst F (v := nI (0)) dL_note_2 (by decide) ?_
  refine x_aload_n F 0 dL_note_3 rfl rfl ?_
  refine x_lload_n F 1 dL_note_4 rfl rfl ?_
  refine x_iload_n F 2 dL_note_5 rfl rfl ?_
  refine x_lload F 3 dL_note_6 rfl ?_
  refine yVr (n := 3) (As := [.long (p0), .int (p1), .long (p2)]) (ci := 5) F kmL_21 kiG_note ksG_note knG kcG_note (by decide +kernel) dL_note_8 (hc) rfl hg0 rfl rfl (Nat.le_of_ble_eq_true rfl) ⟨Nat.le_of_ble_eq_true rfl, Nat.le_of_ble_eq_true rfl⟩ ⟨Nat.le_of_ble_eq_true rfl, Nat.le_of_ble_eq_true rfl⟩ (fun r' n' M1 hp => ?_)
  obtain ⟨hr', hn', hG1, hf1⟩ := hp
  rw [hn', hr']
  show xW p l e ({ frames := 9, cells := 0, slots := 0, locals := 230 } : Room) s m args below meth c D xcl (x_A M nx) 8 (MQ below (x_Q D xcl (x_A M nx) (fun r n' M' => r = some (.int (nI 0)) ∧ n' = nx ∧ (∃ f2 : Nat → Int64, M' o = some (.inl (.long, 1, .inr (.inl f2))) ∧ f2 0 = v.toInt64) ∧ (∀ b, (b < g ∨ g + 45 < b) → b ≠ o → M' b = M b) ∧ gIs M' g γ2)) args s 0 0 (x_A M nx)) 0 0 (nx) M1 11 [(0, .ref (g)), (1, .long (p0)), (3, .int (p1)), (4, .long (p2)), (6, .ref (o))] [.int (v), .int (nI (0)), .ref (o)]
  refine x_i2l F dL_note_11 ?_
  refine x_last F dL_note_12 ((hf1 _ (by omega)).trans ho) (pk_in (0) (1) (by omega)) ?_
  rw [nI_clamp (show 0 < 2 ^ 31 by omega)]
  show xW p l e ({ frames := 9, cells := 0, slots := 0, locals := 230 } : Room) s m args below meth c D xcl (x_A M nx) 8 (MQ below (x_Q D xcl (x_A M nx) (fun r n' M' => r = some (.int (nI 0)) ∧ n' = nx ∧ (∃ f2 : Nat → Int64, M' o = some (.inl (.long, 1, .inr (.inl f2))) ∧ f2 0 = v.toInt64) ∧ (∀ b, (b < g ∨ g + 45 < b) → b ≠ o → M' b = M b) ∧ gIs M' g γ2)) args s 0 0 (x_A M nx)) 0 0 (nx) (x_up M1 (o) (.inl (.long, 1, .inr (.inl (vp_updL (f1) (0) ((v).toInt64)))))) 13 [(0, .ref (g)), (1, .long (p0)), (3, .int (p1)), (4, .long (p2)), (6, .ref (o))] []
  refine x_goto F (tgt := 24) dL_note_13 (by decide) ?_
  refine x_iconst F (v := nI (0)) dL_note_24 (by decide) ?_
  exact x_iret F hr dL_note_25 (⟨rfl, rfl, ⟨_, x_up_s, rfl⟩, fun b h1 h2 => (x_up_n h2).trans (hf1 b h1), gIs_fr hG1 (fun b h1 h2 => x_up_n (by omega))⟩)
set_option maxHeartbeats 2000000 in
set_option maxRecDepth 100000 in
theorem cH_noteJA (l : Launch) (nx : Nat) (M : xH) (g o : Nat) (fs : List Value) (fr lo : Nat) (P0 : Nat → xH → Prop) (p0 : Int64) (p1 : Int32) (p2 : Int64) (hg0 : M g = some (.inr (5, fs))) (hfr : fr ≤ 8) (hlo : lo ≤ 200) (hc : xT_ l xcl yG_note (xw (Cond.code yG_note bG_note 7 (some .int))) ({ frames := fr, cells := 1, slots := 6, locals := lo } : Room) [.ref g, .long (p0), .int (p1), .long (p2)] nx M "java/lang/IllegalArgumentException" P0) : xC l xcl yL_note (xw (Cond.codeWith yL_note bL_note 8 (some .int) [(0, 13, 16, 25), (0, 13, 20, 13)])) ({ frames := 9, cells := 1, slots := 6, locals := 230 } : Room) [.ref g, .long (p0), .int (p1), .long (p2), .ref o] nx M (fun r n' M' => r = some (.int (nI 1)) ∧ P0 n' M') := by
  refine xC.ofH (by decide) rfl (Nat.le_of_ble_eq_true rfl) ?_
  intro p e s m args below meth c D F hr htab
  refine x_aload F 4 dL_note_0 rfl ?_
  refine x_iconst F (v := nI (0)) dL_note_2 (by decide) ?_
  refine x_aload_n F 0 dL_note_3 rfl rfl ?_
  refine x_lload_n F 1 dL_note_4 rfl rfl ?_
  refine x_iload_n F 2 dL_note_5 rfl rfl ?_
  refine x_lload F 3 dL_note_6 rfl ?_
  refine x_invVC (n := 3) (As := [.long (p0), .int (p1), .long (p2)]) (ci := 5) (C := "GoodsTree") (K := "java/lang/IllegalArgumentException") F (x_gV kmL_21 kiG_note ksG_note knG kcG_note) rfl (by decide +kernel) rfl dL_note_8 ⟨by show fr + 1 ≤ 9; omega, by show 8 + (7 + 11) + lo ≤ 230; omega⟩ hc hg0 rfl rfl (Nat.le_of_ble_eq_true rfl) ⟨Nat.le_refl 1, Nat.le_refl 6⟩ [] ⟨0, 13, 16, 25⟩ [⟨0, 13, 20, 13⟩] htab (by decide) (by decide) (x_m klL_25) (va_Nw.use rfl (F.2.2.2.2.1.2.2.2.2.2.1)) (fun z hz => by cases hz) (fun x n' M' hp => ?_)
  show xW p l e ({ frames := 9, cells := 1, slots := 6, locals := 230 } : Room) s m args below meth c D xcl (x_A M nx) 8 (MQ below (x_Q D xcl (x_A M nx) (fun r n' M' => r = some (.int (nI 1)) ∧ P0 n' M')) args s 1 6 (x_A M nx)) 1 6 (n') M' 16 [(0, .ref (g)), (1, .long (p0)), (3, .int (p1)), (4, .long (p2)), (6, .ref (o))] [.ref (x)]
  refine x_astore F [(7, .ref (x)), (0, .ref (g)), (1, .long (p0)), (3, .int (p1)), (4, .long (p2)), (6, .ref (o))] dL_note_16 (by decide) rfl ?_
  refine x_iconst F (v := nI (1)) dL_note_18 (by decide) ?_
  exact x_iret F hr dL_note_19 (⟨rfl, hp⟩)
set_option maxHeartbeats 2000000 in
set_option maxRecDepth 100000 in
theorem cH_noteJS (l : Launch) (nx : Nat) (M : xH) (g o : Nat) (fs : List Value) (fr lo : Nat) (P0 : Nat → xH → Prop) (p0 : Int64) (p1 : Int32) (p2 : Int64) (hg0 : M g = some (.inr (5, fs))) (hfr : fr ≤ 8) (hlo : lo ≤ 200) (hc : xT_ l xcl yG_note (xw (Cond.code yG_note bG_note 7 (some .int))) ({ frames := fr, cells := 1, slots := 6, locals := lo } : Room) [.ref g, .long (p0), .int (p1), .long (p2)] nx M "java/lang/IllegalStateException" P0) : xC l xcl yL_note (xw (Cond.codeWith yL_note bL_note 8 (some .int) [(0, 13, 16, 25), (0, 13, 20, 13)])) ({ frames := 9, cells := 1, slots := 6, locals := 230 } : Room) [.ref g, .long (p0), .int (p1), .long (p2), .ref o] nx M (fun r n' M' => r = some (.int (nI 2)) ∧ P0 n' M') := by
  refine xC.ofH (by decide) rfl (Nat.le_of_ble_eq_true rfl) ?_
  intro p e s m args below meth c D F hr htab
  refine x_aload F 4 dL_note_0 rfl ?_
  refine x_iconst F (v := nI (0)) dL_note_2 (by decide) ?_
  refine x_aload_n F 0 dL_note_3 rfl rfl ?_
  refine x_lload_n F 1 dL_note_4 rfl rfl ?_
  refine x_iload_n F 2 dL_note_5 rfl rfl ?_
  refine x_lload F 3 dL_note_6 rfl ?_
  have hno := x_noA (args' := args) (F.2.2.2.2.1.2.2.2.2.2.2.2.2.2.2.2.2)
  refine x_invVC (n := 3) (As := [.long (p0), .int (p1), .long (p2)]) (ci := 5) (C := "GoodsTree") (K := "java/lang/IllegalStateException") F (x_gV kmL_21 kiG_note ksG_note knG kcG_note) rfl (by decide +kernel) rfl dL_note_8 ⟨by show fr + 1 ≤ 9; omega, by show 8 + (7 + 11) + lo ≤ 230; omega⟩ hc hg0 rfl rfl (Nat.le_of_ble_eq_true rfl) ⟨Nat.le_refl 1, Nat.le_refl 6⟩ [⟨0, 13, 16, 25⟩] ⟨0, 13, 20, 13⟩ [] htab (by decide) (by decide) (x_m klL_13) (va_Nw.use rfl (F.2.2.2.2.1.2.2.2.1)) (fun z hz => by simp only [List.mem_singleton] at hz; subst hz; exact ⟨by decide, "java/lang/IllegalArgumentException", x_m klL_25, hno⟩) (fun x n' M' hp => ?_)
  show xW p l e ({ frames := 9, cells := 1, slots := 6, locals := 230 } : Room) s m args below meth c D xcl (x_A M nx) 8 (MQ below (x_Q D xcl (x_A M nx) (fun r n' M' => r = some (.int (nI 2)) ∧ P0 n' M')) args s 1 6 (x_A M nx)) 1 6 (n') M' 20 [(0, .ref (g)), (1, .long (p0)), (3, .int (p1)), (4, .long (p2)), (6, .ref (o))] [.ref (x)]
  refine x_astore F [(7, .ref (x)), (0, .ref (g)), (1, .long (p0)), (3, .int (p1)), (4, .long (p2)), (6, .ref (o))] dL_note_20 (by decide) rfl ?_
  refine x_iconst F (v := nI (2)) dL_note_22 (by decide) ?_
  exact x_iret F hr dL_note_23 (⟨rfl, hp⟩)
set_option maxHeartbeats 2000000 in
set_option maxRecDepth 100000 in
theorem cH_noted (l : Launch) (nx : Nat) (M : xH) (g o : Nat) (γ2 : gS) (fs : List Value) (f1 : Nat → Int64) (v : Int32) (p0 : Int64) (p1 : Int32) (hg0 : M g = some (.inr (5, fs))) (ho : M o = some (.inl (.long, 1, .inr (.inl f1)))) (hog : o < g ∨ g + 45 < o) (hc : xC l xcl yG_noted (xw (Cond.code yG_noted bG_noted 5 (some .int))) rmC [.ref g, .long (p0), .int (p1)] nx M (gPost (some (.int v)) nx M g γ2)) : xC l xcl yL_noted (xw (Cond.codeWith yL_noted bL_noted 6 (some .int) [(0, 11, 14, 25)])) ({ frames := 9, cells := 0, slots := 0, locals := 230 } : Room) [.ref g, .long (p0), .int (p1), .ref o] nx M (fun r n' M' => r = some (.int (nI 0)) ∧ n' = nx ∧ (∃ f2 : Nat → Int64, M' o = some (.inl (.long, 1, .inr (.inl f2))) ∧ f2 0 = v.toInt64) ∧ (∀ b, (b < g ∨ g + 45 < b) → b ≠ o → M' b = M b) ∧ gIs M' g γ2) := by
  refine xC.ofH (by decide) rfl (Nat.le_of_ble_eq_true rfl) ?_
  intro p e s m args below meth c D F hr htab
  refine x_aload F 3 dL_noted_0 rfl ?_
  refine x_iconst F (v := nI (0)) dL_noted_2 (by decide) ?_
  refine x_aload_n F 0 dL_noted_3 rfl rfl ?_
  refine x_lload_n F 1 dL_noted_4 rfl rfl ?_
  refine x_iload_n F 2 dL_noted_5 rfl rfl ?_
  refine yVr (n := 2) (As := [.long (p0), .int (p1)]) (ci := 5) F kmL_27 kiG_noted ksG_noted knG kcG_noted (by decide +kernel) dL_noted_6 (hc) rfl hg0 rfl rfl (Nat.le_of_ble_eq_true rfl) ⟨Nat.le_of_ble_eq_true rfl, Nat.le_of_ble_eq_true rfl⟩ ⟨Nat.le_of_ble_eq_true rfl, Nat.le_of_ble_eq_true rfl⟩ (fun r' n' M1 hp => ?_)
  obtain ⟨hr', hn', hG1, hf1⟩ := hp
  rw [hn', hr']
  show xW p l e ({ frames := 9, cells := 0, slots := 0, locals := 230 } : Room) s m args below meth c D xcl (x_A M nx) 6 (MQ below (x_Q D xcl (x_A M nx) (fun r n' M' => r = some (.int (nI 0)) ∧ n' = nx ∧ (∃ f2 : Nat → Int64, M' o = some (.inl (.long, 1, .inr (.inl f2))) ∧ f2 0 = v.toInt64) ∧ (∀ b, (b < g ∨ g + 45 < b) → b ≠ o → M' b = M b) ∧ gIs M' g γ2)) args s 0 0 (x_A M nx)) 0 0 (nx) M1 9 [(0, .ref (g)), (1, .long (p0)), (3, .int (p1)), (4, .ref (o))] [.int (v), .int (nI (0)), .ref (o)]
  refine x_i2l F dL_noted_9 ?_
  refine x_last F dL_noted_10 ((hf1 _ (by omega)).trans ho) (pk_in (0) (1) (by omega)) ?_
  rw [nI_clamp (show 0 < 2 ^ 31 by omega)]
  show xW p l e ({ frames := 9, cells := 0, slots := 0, locals := 230 } : Room) s m args below meth c D xcl (x_A M nx) 6 (MQ below (x_Q D xcl (x_A M nx) (fun r n' M' => r = some (.int (nI 0)) ∧ n' = nx ∧ (∃ f2 : Nat → Int64, M' o = some (.inl (.long, 1, .inr (.inl f2))) ∧ f2 0 = v.toInt64) ∧ (∀ b, (b < g ∨ g + 45 < b) → b ≠ o → M' b = M b) ∧ gIs M' g γ2)) args s 0 0 (x_A M nx)) 0 0 (nx) (x_up M1 (o) (.inl (.long, 1, .inr (.inl (vp_updL (f1) (0) ((v).toInt64)))))) 11 [(0, .ref (g)), (1, .long (p0)), (3, .int (p1)), (4, .ref (o))] []
  refine x_goto F (tgt := 18) dL_noted_11 (by decide) ?_
  refine x_iconst F (v := nI (0)) dL_noted_18 (by decide) ?_
  exact x_iret F hr dL_noted_19 (⟨rfl, rfl, ⟨_, x_up_s, rfl⟩, fun b h1 h2 => (x_up_n h2).trans (hf1 b h1), gIs_fr hG1 (fun b h1 h2 => x_up_n (by omega))⟩)
set_option maxHeartbeats 2000000 in
set_option maxRecDepth 100000 in
theorem cH_notedJA (l : Launch) (nx : Nat) (M : xH) (g o : Nat) (fs : List Value) (fr lo : Nat) (P0 : Nat → xH → Prop) (p0 : Int64) (p1 : Int32) (hg0 : M g = some (.inr (5, fs))) (hfr : fr ≤ 8) (hlo : lo ≤ 200) (hc : xT_ l xcl yG_noted (xw (Cond.code yG_noted bG_noted 5 (some .int))) ({ frames := fr, cells := 1, slots := 6, locals := lo } : Room) [.ref g, .long (p0), .int (p1)] nx M "java/lang/IllegalArgumentException" P0) : xC l xcl yL_noted (xw (Cond.codeWith yL_noted bL_noted 6 (some .int) [(0, 11, 14, 25)])) ({ frames := 9, cells := 1, slots := 6, locals := 230 } : Room) [.ref g, .long (p0), .int (p1), .ref o] nx M (fun r n' M' => r = some (.int (nI 1)) ∧ P0 n' M') := by
  refine xC.ofH (by decide) rfl (Nat.le_of_ble_eq_true rfl) ?_
  intro p e s m args below meth c D F hr htab
  refine x_aload F 3 dL_noted_0 rfl ?_
  refine x_iconst F (v := nI (0)) dL_noted_2 (by decide) ?_
  refine x_aload_n F 0 dL_noted_3 rfl rfl ?_
  refine x_lload_n F 1 dL_noted_4 rfl rfl ?_
  refine x_iload_n F 2 dL_noted_5 rfl rfl ?_
  refine x_invVC (n := 2) (As := [.long (p0), .int (p1)]) (ci := 5) (C := "GoodsTree") (K := "java/lang/IllegalArgumentException") F (x_gV kmL_27 kiG_noted ksG_noted knG kcG_noted) rfl (by decide +kernel) rfl dL_noted_6 ⟨by show fr + 1 ≤ 9; omega, by show 8 + (5 + 11) + lo ≤ 230; omega⟩ hc hg0 rfl rfl (Nat.le_of_ble_eq_true rfl) ⟨Nat.le_refl 1, Nat.le_refl 6⟩ [] ⟨0, 11, 14, 25⟩ [] htab (by decide) (by decide) (x_m klL_25) (va_Nw.use rfl (F.2.2.2.2.1.2.2.2.2.2.1)) (fun z hz => by cases hz) (fun x n' M' hp => ?_)
  show xW p l e ({ frames := 9, cells := 1, slots := 6, locals := 230 } : Room) s m args below meth c D xcl (x_A M nx) 6 (MQ below (x_Q D xcl (x_A M nx) (fun r n' M' => r = some (.int (nI 1)) ∧ P0 n' M')) args s 1 6 (x_A M nx)) 1 6 (n') M' 14 [(0, .ref (g)), (1, .long (p0)), (3, .int (p1)), (4, .ref (o))] [.ref (x)]
  refine x_astore F [(5, .ref (x)), (0, .ref (g)), (1, .long (p0)), (3, .int (p1)), (4, .ref (o))] dL_noted_14 (by decide) rfl ?_
  refine x_iconst F (v := nI (1)) dL_noted_16 (by decide) ?_
  exact x_iret F hr dL_noted_17 (⟨rfl, hp⟩)
set_option maxHeartbeats 2000000 in
set_option maxRecDepth 100000 in
theorem cH_became (l : Launch) (nx : Nat) (M : xH) (g o : Nat) (γ2 : gS) (fs : List Value) (f1 : Nat → Int64) (v : Int32) (p0 : Int32) (p1 : Int64) (p2 : Int32) (hg0 : M g = some (.inr (5, fs))) (ho : M o = some (.inl (.long, 1, .inr (.inl f1)))) (hog : o < g ∨ g + 45 < o) (hc : xC l xcl yG_became (xw (Cond.code yG_became bG_became 8 (some .int))) rmC [.ref g, .int (p0), .long (p1), .int (p2)] nx M (gPost (some (.int v)) nx M g γ2)) : xC l xcl yL_became (xw (Cond.codeWith yL_became bL_became 7 (some .int) [(0, 13, 16, 25)])) ({ frames := 9, cells := 0, slots := 0, locals := 230 } : Room) [.ref g, .int (p0), .long (p1), .int (p2), .ref o] nx M (fun r n' M' => r = some (.int (nI 0)) ∧ n' = nx ∧ (∃ f2 : Nat → Int64, M' o = some (.inl (.long, 1, .inr (.inl f2))) ∧ f2 0 = v.toInt64) ∧ (∀ b, (b < g ∨ g + 45 < b) → b ≠ o → M' b = M b) ∧ gIs M' g γ2) := by
  refine xC.ofH (by decide) rfl (Nat.le_of_ble_eq_true rfl) ?_
  intro p e s m args below meth c D F hr htab
  refine x_aload F 4 dL_became_0 rfl ?_
  refine x_iconst F (v := nI (0)) dL_became_2 (by decide) ?_
  refine x_aload_n F 0 dL_became_3 rfl rfl ?_
  refine x_iload_n F 1 dL_became_4 rfl rfl ?_
  refine x_lload_n F 2 dL_became_5 rfl rfl ?_
  refine x_iload F 3 dL_became_6 rfl ?_
  refine yVr (n := 3) (As := [.int (p0), .long (p1), .int (p2)]) (ci := 5) F kmL_31 kiG_became ksG_became knG kcG_became (by decide +kernel) dL_became_8 (hc) rfl hg0 rfl rfl (Nat.le_of_ble_eq_true rfl) ⟨Nat.le_of_ble_eq_true rfl, Nat.le_of_ble_eq_true rfl⟩ ⟨Nat.le_of_ble_eq_true rfl, Nat.le_of_ble_eq_true rfl⟩ (fun r' n' M1 hp => ?_)
  obtain ⟨hr', hn', hG1, hf1⟩ := hp
  rw [hn', hr']
  show xW p l e ({ frames := 9, cells := 0, slots := 0, locals := 230 } : Room) s m args below meth c D xcl (x_A M nx) 7 (MQ below (x_Q D xcl (x_A M nx) (fun r n' M' => r = some (.int (nI 0)) ∧ n' = nx ∧ (∃ f2 : Nat → Int64, M' o = some (.inl (.long, 1, .inr (.inl f2))) ∧ f2 0 = v.toInt64) ∧ (∀ b, (b < g ∨ g + 45 < b) → b ≠ o → M' b = M b) ∧ gIs M' g γ2)) args s 0 0 (x_A M nx)) 0 0 (nx) M1 11 [(0, .ref (g)), (1, .int (p0)), (2, .long (p1)), (4, .int (p2)), (5, .ref (o))] [.int (v), .int (nI (0)), .ref (o)]
  refine x_i2l F dL_became_11 ?_
  refine x_last F dL_became_12 ((hf1 _ (by omega)).trans ho) (pk_in (0) (1) (by omega)) ?_
  rw [nI_clamp (show 0 < 2 ^ 31 by omega)]
  show xW p l e ({ frames := 9, cells := 0, slots := 0, locals := 230 } : Room) s m args below meth c D xcl (x_A M nx) 7 (MQ below (x_Q D xcl (x_A M nx) (fun r n' M' => r = some (.int (nI 0)) ∧ n' = nx ∧ (∃ f2 : Nat → Int64, M' o = some (.inl (.long, 1, .inr (.inl f2))) ∧ f2 0 = v.toInt64) ∧ (∀ b, (b < g ∨ g + 45 < b) → b ≠ o → M' b = M b) ∧ gIs M' g γ2)) args s 0 0 (x_A M nx)) 0 0 (nx) (x_up M1 (o) (.inl (.long, 1, .inr (.inl (vp_updL (f1) (0) ((v).toInt64)))))) 13 [(0, .ref (g)), (1, .int (p0)), (2, .long (p1)), (4, .int (p2)), (5, .ref (o))] []
  refine x_goto F (tgt := 20) dL_became_13 (by decide) ?_
  refine x_iconst F (v := nI (0)) dL_became_20 (by decide) ?_
  exact x_iret F hr dL_became_21 (⟨rfl, rfl, ⟨_, x_up_s, rfl⟩, fun b h1 h2 => (x_up_n h2).trans (hf1 b h1), gIs_fr hG1 (fun b h1 h2 => x_up_n (by omega))⟩)
set_option maxHeartbeats 2000000 in
set_option maxRecDepth 100000 in
theorem cH_becameJA (l : Launch) (nx : Nat) (M : xH) (g o : Nat) (fs : List Value) (fr lo : Nat) (P0 : Nat → xH → Prop) (p0 : Int32) (p1 : Int64) (p2 : Int32) (hg0 : M g = some (.inr (5, fs))) (hfr : fr ≤ 8) (hlo : lo ≤ 200) (hc : xT_ l xcl yG_became (xw (Cond.code yG_became bG_became 8 (some .int))) ({ frames := fr, cells := 1, slots := 6, locals := lo } : Room) [.ref g, .int (p0), .long (p1), .int (p2)] nx M "java/lang/IllegalArgumentException" P0) : xC l xcl yL_became (xw (Cond.codeWith yL_became bL_became 7 (some .int) [(0, 13, 16, 25)])) ({ frames := 9, cells := 1, slots := 6, locals := 230 } : Room) [.ref g, .int (p0), .long (p1), .int (p2), .ref o] nx M (fun r n' M' => r = some (.int (nI 1)) ∧ P0 n' M') := by
  refine xC.ofH (by decide) rfl (Nat.le_of_ble_eq_true rfl) ?_
  intro p e s m args below meth c D F hr htab
  refine x_aload F 4 dL_became_0 rfl ?_
  refine x_iconst F (v := nI (0)) dL_became_2 (by decide) ?_
  refine x_aload_n F 0 dL_became_3 rfl rfl ?_
  refine x_iload_n F 1 dL_became_4 rfl rfl ?_
  refine x_lload_n F 2 dL_became_5 rfl rfl ?_
  refine x_iload F 3 dL_became_6 rfl ?_
  refine x_invVC (n := 3) (As := [.int (p0), .long (p1), .int (p2)]) (ci := 5) (C := "GoodsTree") (K := "java/lang/IllegalArgumentException") F (x_gV kmL_31 kiG_became ksG_became knG kcG_became) rfl (by decide +kernel) rfl dL_became_8 ⟨by show fr + 1 ≤ 9; omega, by show 8 + (8 + 11) + lo ≤ 230; omega⟩ hc hg0 rfl rfl (Nat.le_of_ble_eq_true rfl) ⟨Nat.le_refl 1, Nat.le_refl 6⟩ [] ⟨0, 13, 16, 25⟩ [] htab (by decide) (by decide) (x_m klL_25) (va_Nw.use rfl (F.2.2.2.2.1.2.2.2.2.2.1)) (fun z hz => by cases hz) (fun x n' M' hp => ?_)
  show xW p l e ({ frames := 9, cells := 1, slots := 6, locals := 230 } : Room) s m args below meth c D xcl (x_A M nx) 7 (MQ below (x_Q D xcl (x_A M nx) (fun r n' M' => r = some (.int (nI 1)) ∧ P0 n' M')) args s 1 6 (x_A M nx)) 1 6 (n') M' 16 [(0, .ref (g)), (1, .int (p0)), (2, .long (p1)), (4, .int (p2)), (5, .ref (o))] [.ref (x)]
  refine x_astore F [(6, .ref (x)), (0, .ref (g)), (1, .int (p0)), (2, .long (p1)), (4, .int (p2)), (5, .ref (o))] dL_became_16 (by decide) rfl ?_
  refine x_iconst F (v := nI (1)) dL_became_18 (by decide) ?_
  exact x_iret F hr dL_became_19 (⟨rfl, hp⟩)
set_option maxHeartbeats 2000000 in
set_option maxRecDepth 100000 in
theorem cH_linked (l : Launch) (nx : Nat) (M : xH) (g o : Nat) (γ2 : gS) (fs : List Value) (f1 : Nat → Int64) (v : Int64) (p0 : Int32) (p1 : Int64) (p2 p3 : Int32) (hg0 : M g = some (.inr (5, fs))) (ho : M o = some (.inl (.long, 1, .inr (.inl f1)))) (hog : o < g ∨ g + 45 < o) (hc : xC l xcl yG_linked (xw (Cond.code yG_linked bG_linked 6 (some .long))) rmC [.ref g, .int (p0), .long (p1), .int (p2), .int (p3)] nx M (gPost (some (.long v)) nx M g γ2)) : xC l xcl yL_linked (xw (Cond.codeWith yL_linked bL_linked 8 (some .int) [(0, 14, 17, 25)])) ({ frames := 9, cells := 0, slots := 0, locals := 230 } : Room) [.ref g, .int (p0), .long (p1), .int (p2), .int (p3), .ref o] nx M (fun r n' M' => r = some (.int (nI 0)) ∧ n' = nx ∧ (∃ f2 : Nat → Int64, M' o = some (.inl (.long, 1, .inr (.inl f2))) ∧ f2 0 = v) ∧ (∀ b, (b < g ∨ g + 45 < b) → b ≠ o → M' b = M b) ∧ gIs M' g γ2) := by
  refine xC.ofH (by decide) rfl (Nat.le_of_ble_eq_true rfl) ?_
  intro p e s m args below meth c D F hr htab
  refine x_aload F 5 dL_linked_0 rfl ?_
  refine x_iconst F (v := nI (0)) dL_linked_2 (by decide) ?_
  refine x_aload_n F 0 dL_linked_3 rfl rfl ?_
  refine x_iload_n F 1 dL_linked_4 rfl rfl ?_
  refine x_lload_n F 2 dL_linked_5 rfl rfl ?_
  refine x_iload F 3 dL_linked_6 rfl ?_
  refine x_iload F 4 dL_linked_8 rfl ?_
  refine yVr (n := 4) (As := [.int (p0), .long (p1), .int (p2), .int (p3)]) (ci := 5) F kmL_35 kiG_linked ksG_linked knG kcG_linked (by decide +kernel) dL_linked_10 (hc) rfl hg0 rfl rfl (Nat.le_of_ble_eq_true rfl) ⟨Nat.le_of_ble_eq_true rfl, Nat.le_of_ble_eq_true rfl⟩ ⟨Nat.le_of_ble_eq_true rfl, Nat.le_of_ble_eq_true rfl⟩ (fun r' n' M1 hp => ?_)
  obtain ⟨hr', hn', hG1, hf1⟩ := hp
  rw [hn', hr']
  show xW p l e ({ frames := 9, cells := 0, slots := 0, locals := 230 } : Room) s m args below meth c D xcl (x_A M nx) 8 (MQ below (x_Q D xcl (x_A M nx) (fun r n' M' => r = some (.int (nI 0)) ∧ n' = nx ∧ (∃ f2 : Nat → Int64, M' o = some (.inl (.long, 1, .inr (.inl f2))) ∧ f2 0 = v) ∧ (∀ b, (b < g ∨ g + 45 < b) → b ≠ o → M' b = M b) ∧ gIs M' g γ2)) args s 0 0 (x_A M nx)) 0 0 (nx) M1 13 [(0, .ref (g)), (1, .int (p0)), (2, .long (p1)), (4, .int (p2)), (5, .int (p3)), (6, .ref (o))] [.long (v), .int (nI (0)), .ref (o)]
  refine x_last F dL_linked_13 ((hf1 _ (by omega)).trans ho) (pk_in (0) (1) (by omega)) ?_
  rw [nI_clamp (show 0 < 2 ^ 31 by omega)]
  show xW p l e ({ frames := 9, cells := 0, slots := 0, locals := 230 } : Room) s m args below meth c D xcl (x_A M nx) 8 (MQ below (x_Q D xcl (x_A M nx) (fun r n' M' => r = some (.int (nI 0)) ∧ n' = nx ∧ (∃ f2 : Nat → Int64, M' o = some (.inl (.long, 1, .inr (.inl f2))) ∧ f2 0 = v) ∧ (∀ b, (b < g ∨ g + 45 < b) → b ≠ o → M' b = M b) ∧ gIs M' g γ2)) args s 0 0 (x_A M nx)) 0 0 (nx) (x_up M1 (o) (.inl (.long, 1, .inr (.inl (vp_updL (f1) (0) (v)))))) 14 [(0, .ref (g)), (1, .int (p0)), (2, .long (p1)), (4, .int (p2)), (5, .int (p3)), (6, .ref (o))] []
  refine x_goto F (tgt := 21) dL_linked_14 (by decide) ?_
  refine x_iconst F (v := nI (0)) dL_linked_21 (by decide) ?_
  exact x_iret F hr dL_linked_22 (⟨rfl, rfl, ⟨_, x_up_s, rfl⟩, fun b h1 h2 => (x_up_n h2).trans (hf1 b h1), gIs_fr hG1 (fun b h1 h2 => x_up_n (by omega))⟩)
set_option maxHeartbeats 2000000 in
set_option maxRecDepth 100000 in
theorem cH_linkedJA (l : Launch) (nx : Nat) (M : xH) (g o : Nat) (fs : List Value) (fr lo : Nat) (P0 : Nat → xH → Prop) (p0 : Int32) (p1 : Int64) (p2 p3 : Int32) (hg0 : M g = some (.inr (5, fs))) (hfr : fr ≤ 8) (hlo : lo ≤ 200) (hc : xT_ l xcl yG_linked (xw (Cond.code yG_linked bG_linked 6 (some .long))) ({ frames := fr, cells := 1, slots := 6, locals := lo } : Room) [.ref g, .int (p0), .long (p1), .int (p2), .int (p3)] nx M "java/lang/IllegalArgumentException" P0) : xC l xcl yL_linked (xw (Cond.codeWith yL_linked bL_linked 8 (some .int) [(0, 14, 17, 25)])) ({ frames := 9, cells := 1, slots := 6, locals := 230 } : Room) [.ref g, .int (p0), .long (p1), .int (p2), .int (p3), .ref o] nx M (fun r n' M' => r = some (.int (nI 1)) ∧ P0 n' M') := by
  refine xC.ofH (by decide) rfl (Nat.le_of_ble_eq_true rfl) ?_
  intro p e s m args below meth c D F hr htab
  refine x_aload F 5 dL_linked_0 rfl ?_
  refine x_iconst F (v := nI (0)) dL_linked_2 (by decide) ?_
  refine x_aload_n F 0 dL_linked_3 rfl rfl ?_
  refine x_iload_n F 1 dL_linked_4 rfl rfl ?_
  refine x_lload_n F 2 dL_linked_5 rfl rfl ?_
  refine x_iload F 3 dL_linked_6 rfl ?_
  refine x_iload F 4 dL_linked_8 rfl ?_
  refine x_invVC (n := 4) (As := [.int (p0), .long (p1), .int (p2), .int (p3)]) (ci := 5) (C := "GoodsTree") (K := "java/lang/IllegalArgumentException") F (x_gV kmL_35 kiG_linked ksG_linked knG kcG_linked) rfl (by decide +kernel) rfl dL_linked_10 ⟨by show fr + 1 ≤ 9; omega, by show 8 + (6 + 11) + lo ≤ 230; omega⟩ hc hg0 rfl rfl (Nat.le_of_ble_eq_true rfl) ⟨Nat.le_refl 1, Nat.le_refl 6⟩ [] ⟨0, 14, 17, 25⟩ [] htab (by decide) (by decide) (x_m klL_25) (va_Nw.use rfl (F.2.2.2.2.1.2.2.2.2.2.1)) (fun z hz => by cases hz) (fun x n' M' hp => ?_)
  show xW p l e ({ frames := 9, cells := 1, slots := 6, locals := 230 } : Room) s m args below meth c D xcl (x_A M nx) 8 (MQ below (x_Q D xcl (x_A M nx) (fun r n' M' => r = some (.int (nI 1)) ∧ P0 n' M')) args s 1 6 (x_A M nx)) 1 6 (n') M' 17 [(0, .ref (g)), (1, .int (p0)), (2, .long (p1)), (4, .int (p2)), (5, .int (p3)), (6, .ref (o))] [.ref (x)]
  refine x_astore F [(7, .ref (x)), (0, .ref (g)), (1, .int (p0)), (2, .long (p1)), (4, .int (p2)), (5, .int (p3)), (6, .ref (o))] dL_linked_17 (by decide) rfl ?_
  refine x_iconst F (v := nI (1)) dL_linked_19 (by decide) ?_
  exact x_iret F hr dL_linked_20 (⟨rfl, hp⟩)
set_option maxHeartbeats 2000000 in
set_option maxRecDepth 100000 in
theorem cH_lost (l : Launch) (nx : Nat) (M : xH) (g o : Nat) (γ2 : gS) (fs : List Value) (f1 : Nat → Int64) (v : Int32) (p0 p1 : Int32) (hg0 : M g = some (.inr (5, fs))) (ho : M o = some (.inl (.long, 1, .inr (.inl f1)))) (hog : o < g ∨ g + 45 < o) (hc : xC l xcl yG_lost (xw (Cond.code yG_lost bG_lost 6 (some .int))) rmC [.ref g, .int (p0), .int (p1)] nx M (gPost (some (.int v)) nx M g γ2)) : xC l xcl yL_lost (xw (Cond.codeWith yL_lost bL_lost 5 (some .int) [(0, 10, 13, 25)])) ({ frames := 9, cells := 0, slots := 0, locals := 230 } : Room) [.ref g, .int (p0), .int (p1), .ref o] nx M (fun r n' M' => r = some (.int (nI 0)) ∧ n' = nx ∧ (∃ f2 : Nat → Int64, M' o = some (.inl (.long, 1, .inr (.inl f2))) ∧ f2 0 = v.toInt64) ∧ (∀ b, (b < g ∨ g + 45 < b) → b ≠ o → M' b = M b) ∧ gIs M' g γ2) := by
  refine xC.ofH (by decide) rfl (Nat.le_of_ble_eq_true rfl) ?_
  intro p e s m args below meth c D F hr htab
  refine x_aload_n F 3 dL_lost_0 rfl rfl ?_
  refine x_iconst F (v := nI (0)) dL_lost_1 (by decide) ?_
  refine x_aload_n F 0 dL_lost_2 rfl rfl ?_
  refine x_iload_n F 1 dL_lost_3 rfl rfl ?_
  refine x_iload_n F 2 dL_lost_4 rfl rfl ?_
  refine yVr (n := 2) (As := [.int (p0), .int (p1)]) (ci := 5) F kmL_39 kiG_lost ksG_lost knG kcG_lost (by decide +kernel) dL_lost_5 (hc) rfl hg0 rfl rfl (Nat.le_of_ble_eq_true rfl) ⟨Nat.le_of_ble_eq_true rfl, Nat.le_of_ble_eq_true rfl⟩ ⟨Nat.le_of_ble_eq_true rfl, Nat.le_of_ble_eq_true rfl⟩ (fun r' n' M1 hp => ?_)
  obtain ⟨hr', hn', hG1, hf1⟩ := hp
  rw [hn', hr']
  show xW p l e ({ frames := 9, cells := 0, slots := 0, locals := 230 } : Room) s m args below meth c D xcl (x_A M nx) 5 (MQ below (x_Q D xcl (x_A M nx) (fun r n' M' => r = some (.int (nI 0)) ∧ n' = nx ∧ (∃ f2 : Nat → Int64, M' o = some (.inl (.long, 1, .inr (.inl f2))) ∧ f2 0 = v.toInt64) ∧ (∀ b, (b < g ∨ g + 45 < b) → b ≠ o → M' b = M b) ∧ gIs M' g γ2)) args s 0 0 (x_A M nx)) 0 0 (nx) M1 8 [(0, .ref (g)), (1, .int (p0)), (2, .int (p1)), (3, .ref (o))] [.int (v), .int (nI (0)), .ref (o)]
  refine x_i2l F dL_lost_8 ?_
  refine x_last F dL_lost_9 ((hf1 _ (by omega)).trans ho) (pk_in (0) (1) (by omega)) ?_
  rw [nI_clamp (show 0 < 2 ^ 31 by omega)]
  show xW p l e ({ frames := 9, cells := 0, slots := 0, locals := 230 } : Room) s m args below meth c D xcl (x_A M nx) 5 (MQ below (x_Q D xcl (x_A M nx) (fun r n' M' => r = some (.int (nI 0)) ∧ n' = nx ∧ (∃ f2 : Nat → Int64, M' o = some (.inl (.long, 1, .inr (.inl f2))) ∧ f2 0 = v.toInt64) ∧ (∀ b, (b < g ∨ g + 45 < b) → b ≠ o → M' b = M b) ∧ gIs M' g γ2)) args s 0 0 (x_A M nx)) 0 0 (nx) (x_up M1 (o) (.inl (.long, 1, .inr (.inl (vp_updL (f1) (0) ((v).toInt64)))))) 10 [(0, .ref (g)), (1, .int (p0)), (2, .int (p1)), (3, .ref (o))] []
  refine x_goto F (tgt := 17) dL_lost_10 (by decide) ?_
  refine x_iconst F (v := nI (0)) dL_lost_17 (by decide) ?_
  exact x_iret F hr dL_lost_18 (⟨rfl, rfl, ⟨_, x_up_s, rfl⟩, fun b h1 h2 => (x_up_n h2).trans (hf1 b h1), gIs_fr hG1 (fun b h1 h2 => x_up_n (by omega))⟩)
set_option maxHeartbeats 2000000 in
set_option maxRecDepth 100000 in
theorem cH_lostJA (l : Launch) (nx : Nat) (M : xH) (g o : Nat) (fs : List Value) (fr lo : Nat) (P0 : Nat → xH → Prop) (p0 p1 : Int32) (hg0 : M g = some (.inr (5, fs))) (hfr : fr ≤ 8) (hlo : lo ≤ 200) (hc : xT_ l xcl yG_lost (xw (Cond.code yG_lost bG_lost 6 (some .int))) ({ frames := fr, cells := 1, slots := 6, locals := lo } : Room) [.ref g, .int (p0), .int (p1)] nx M "java/lang/IllegalArgumentException" P0) : xC l xcl yL_lost (xw (Cond.codeWith yL_lost bL_lost 5 (some .int) [(0, 10, 13, 25)])) ({ frames := 9, cells := 1, slots := 6, locals := 230 } : Room) [.ref g, .int (p0), .int (p1), .ref o] nx M (fun r n' M' => r = some (.int (nI 1)) ∧ P0 n' M') := by
  refine xC.ofH (by decide) rfl (Nat.le_of_ble_eq_true rfl) ?_
  intro p e s m args below meth c D F hr htab
  refine x_aload_n F 3 dL_lost_0 rfl rfl ?_
  refine x_iconst F (v := nI (0)) dL_lost_1 (by decide) ?_
  refine x_aload_n F 0 dL_lost_2 rfl rfl ?_
  refine x_iload_n F 1 dL_lost_3 rfl rfl ?_
  refine x_iload_n F 2 dL_lost_4 rfl rfl ?_
  refine x_invVC (n := 2) (As := [.int (p0), .int (p1)]) (ci := 5) (C := "GoodsTree") (K := "java/lang/IllegalArgumentException") F (x_gV kmL_39 kiG_lost ksG_lost knG kcG_lost) rfl (by decide +kernel) rfl dL_lost_5 ⟨by show fr + 1 ≤ 9; omega, by show 8 + (6 + 11) + lo ≤ 230; omega⟩ hc hg0 rfl rfl (Nat.le_of_ble_eq_true rfl) ⟨Nat.le_refl 1, Nat.le_refl 6⟩ [] ⟨0, 10, 13, 25⟩ [] htab (by decide) (by decide) (x_m klL_25) (va_Nw.use rfl (F.2.2.2.2.1.2.2.2.2.2.1)) (fun z hz => by cases hz) (fun x n' M' hp => ?_)
  show xW p l e ({ frames := 9, cells := 1, slots := 6, locals := 230 } : Room) s m args below meth c D xcl (x_A M nx) 5 (MQ below (x_Q D xcl (x_A M nx) (fun r n' M' => r = some (.int (nI 1)) ∧ P0 n' M')) args s 1 6 (x_A M nx)) 1 6 (n') M' 13 [(0, .ref (g)), (1, .int (p0)), (2, .int (p1)), (3, .ref (o))] [.ref (x)]
  refine x_astore F [(4, .ref (x)), (0, .ref (g)), (1, .int (p0)), (2, .int (p1)), (3, .ref (o))] dL_lost_13 (by decide) rfl ?_
  refine x_iconst F (v := nI (1)) dL_lost_15 (by decide) ?_
  exact x_iret F hr dL_lost_16 (⟨rfl, hp⟩)
set_option maxHeartbeats 2000000 in
set_option maxRecDepth 100000 in
theorem cH_search (l : Launch) (nx : Nat) (M : xH) (g o : Nat) (γ2 : gS) (fs : List Value) (f1 : Nat → Int64) (v : Int32)  (hg0 : M g = some (.inr (5, fs))) (ho : M o = some (.inl (.long, 1, .inr (.inl f1)))) (hog : o < g ∨ g + 45 < o) (hc : xC l xcl yG_search (xw (Cond.code yG_search bG_search 4 (some .int))) rmC [.ref g] nx M (gPost (some (.int v)) nx M g γ2)) : xC l xcl yL_search (xw (Cond.codeWith yL_search bL_search 3 (some .int) [(0, 8, 11, 13)])) ({ frames := 9, cells := 0, slots := 0, locals := 230 } : Room) [.ref g, .ref o] nx M (fun r n' M' => r = some (.int (nI 0)) ∧ n' = nx ∧ (∃ f2 : Nat → Int64, M' o = some (.inl (.long, 1, .inr (.inl f2))) ∧ f2 0 = v.toInt64) ∧ (∀ b, (b < g ∨ g + 45 < b) → b ≠ o → M' b = M b) ∧ gIs M' g γ2) := by
  refine xC.ofH (by decide) rfl (Nat.le_of_ble_eq_true rfl) ?_
  intro p e s m args below meth c D F hr htab
  refine x_aload_n F 1 dL_search_0 rfl rfl ?_
  refine x_iconst F (v := nI (0)) dL_search_1 (by decide) ?_
  refine x_aload_n F 0 dL_search_2 rfl rfl ?_
  refine yVr (n := 0) (As := []) (ci := 5) F kmL_43 kiG_search ksG_search knG kcG_search (by decide +kernel) dL_search_3 (hc) rfl hg0 rfl rfl (Nat.le_of_ble_eq_true rfl) ⟨Nat.le_of_ble_eq_true rfl, Nat.le_of_ble_eq_true rfl⟩ ⟨Nat.le_of_ble_eq_true rfl, Nat.le_of_ble_eq_true rfl⟩ (fun r' n' M1 hp => ?_)
  obtain ⟨hr', hn', hG1, hf1⟩ := hp
  rw [hn', hr']
  show xW p l e ({ frames := 9, cells := 0, slots := 0, locals := 230 } : Room) s m args below meth c D xcl (x_A M nx) 3 (MQ below (x_Q D xcl (x_A M nx) (fun r n' M' => r = some (.int (nI 0)) ∧ n' = nx ∧ (∃ f2 : Nat → Int64, M' o = some (.inl (.long, 1, .inr (.inl f2))) ∧ f2 0 = v.toInt64) ∧ (∀ b, (b < g ∨ g + 45 < b) → b ≠ o → M' b = M b) ∧ gIs M' g γ2)) args s 0 0 (x_A M nx)) 0 0 (nx) M1 6 [(0, .ref (g)), (1, .ref (o))] [.int (v), .int (nI (0)), .ref (o)]
  refine x_i2l F dL_search_6 ?_
  refine x_last F dL_search_7 ((hf1 _ (by omega)).trans ho) (pk_in (0) (1) (by omega)) ?_
  rw [nI_clamp (show 0 < 2 ^ 31 by omega)]
  show xW p l e ({ frames := 9, cells := 0, slots := 0, locals := 230 } : Room) s m args below meth c D xcl (x_A M nx) 3 (MQ below (x_Q D xcl (x_A M nx) (fun r n' M' => r = some (.int (nI 0)) ∧ n' = nx ∧ (∃ f2 : Nat → Int64, M' o = some (.inl (.long, 1, .inr (.inl f2))) ∧ f2 0 = v.toInt64) ∧ (∀ b, (b < g ∨ g + 45 < b) → b ≠ o → M' b = M b) ∧ gIs M' g γ2)) args s 0 0 (x_A M nx)) 0 0 (nx) (x_up M1 (o) (.inl (.long, 1, .inr (.inl (vp_updL (f1) (0) ((v).toInt64)))))) 8 [(0, .ref (g)), (1, .ref (o))] []
  refine x_goto F (tgt := 14) dL_search_8 (by decide) ?_
  refine x_iconst F (v := nI (0)) dL_search_14 (by decide) ?_
  exact x_iret F hr dL_search_15 (⟨rfl, rfl, ⟨_, x_up_s, rfl⟩, fun b h1 h2 => (x_up_n h2).trans (hf1 b h1), gIs_fr hG1 (fun b h1 h2 => x_up_n (by omega))⟩)
set_option maxHeartbeats 2000000 in
set_option maxRecDepth 100000 in
theorem cH_searchJS (l : Launch) (nx : Nat) (M : xH) (g o : Nat) (fs : List Value) (fr lo : Nat) (P0 : Nat → xH → Prop)  (hg0 : M g = some (.inr (5, fs))) (hfr : fr ≤ 8) (hlo : lo ≤ 200) (hc : xT_ l xcl yG_search (xw (Cond.code yG_search bG_search 4 (some .int))) ({ frames := fr, cells := 1, slots := 6, locals := lo } : Room) [.ref g] nx M "java/lang/IllegalStateException" P0) : xC l xcl yL_search (xw (Cond.codeWith yL_search bL_search 3 (some .int) [(0, 8, 11, 13)])) ({ frames := 9, cells := 1, slots := 6, locals := 230 } : Room) [.ref g, .ref o] nx M (fun r n' M' => r = some (.int (nI 1)) ∧ P0 n' M') := by
  refine xC.ofH (by decide) rfl (Nat.le_of_ble_eq_true rfl) ?_
  intro p e s m args below meth c D F hr htab
  refine x_aload_n F 1 dL_search_0 rfl rfl ?_
  refine x_iconst F (v := nI (0)) dL_search_1 (by decide) ?_
  refine x_aload_n F 0 dL_search_2 rfl rfl ?_
  refine x_invVC (n := 0) (As := []) (ci := 5) (C := "GoodsTree") (K := "java/lang/IllegalStateException") F (x_gV kmL_43 kiG_search ksG_search knG kcG_search) rfl (by decide +kernel) rfl dL_search_3 ⟨by show fr + 1 ≤ 9; omega, by show 8 + (4 + 11) + lo ≤ 230; omega⟩ hc hg0 rfl rfl (Nat.le_of_ble_eq_true rfl) ⟨Nat.le_refl 1, Nat.le_refl 6⟩ [] ⟨0, 8, 11, 13⟩ [] htab (by decide) (by decide) (x_m klL_13) (va_Nw.use rfl (F.2.2.2.2.1.2.2.2.1)) (fun z hz => by cases hz) (fun x n' M' hp => ?_)
  show xW p l e ({ frames := 9, cells := 1, slots := 6, locals := 230 } : Room) s m args below meth c D xcl (x_A M nx) 3 (MQ below (x_Q D xcl (x_A M nx) (fun r n' M' => r = some (.int (nI 1)) ∧ P0 n' M')) args s 1 6 (x_A M nx)) 1 6 (n') M' 11 [(0, .ref (g)), (1, .ref (o))] [.ref (x)]
  refine x_astore_n F [(2, .ref (x)), (0, .ref (g)), (1, .ref (o))] dL_search_11 rfl (by decide) rfl ?_
  refine x_iconst F (v := nI (1)) dL_search_12 (by decide) ?_
  exact x_iret F hr dL_search_13 (⟨rfl, hp⟩)
set_option maxHeartbeats 2000000 in
set_option maxRecDepth 100000 in
theorem cH_found (l : Launch) (nx : Nat) (M : xH) (g o : Nat) (γ2 : gS) (fs : List Value) (f1 : Nat → Int64) (v : Int64) (p0 p1 : Int32) (hg0 : M g = some (.inr (5, fs))) (ho : M o = some (.inl (.long, 1, .inr (.inl f1)))) (hog : o < g ∨ g + 45 < o) (hc : xC l xcl yG_found (xw (Cond.code yG_found bG_found 3 (some .long))) rmC [.ref g, .int (p0), .int (p1)] nx M (gPost (some (.long v)) nx M g γ2)) : xC l xcl yL_found (xw (Cond.codeWith yL_found bL_found 5 (some .int) [(0, 9, 12, 19)])) ({ frames := 9, cells := 0, slots := 0, locals := 230 } : Room) [.ref g, .int (p0), .int (p1), .ref o] nx M (fun r n' M' => r = some (.int (nI 0)) ∧ n' = nx ∧ (∃ f2 : Nat → Int64, M' o = some (.inl (.long, 1, .inr (.inl f2))) ∧ f2 0 = v) ∧ (∀ b, (b < g ∨ g + 45 < b) → b ≠ o → M' b = M b) ∧ gIs M' g γ2) := by
  refine xC.ofH (by decide) rfl (Nat.le_of_ble_eq_true rfl) ?_
  intro p e s m args below meth c D F hr htab
  refine x_aload_n F 3 dL_found_0 rfl rfl ?_
  refine x_iconst F (v := nI (0)) dL_found_1 (by decide) ?_
  refine x_aload_n F 0 dL_found_2 rfl rfl ?_
  refine x_iload_n F 1 dL_found_3 rfl rfl ?_
  refine x_iload_n F 2 dL_found_4 rfl rfl ?_
  refine yVr (n := 2) (As := [.int (p0), .int (p1)]) (ci := 5) F kmL_46 kiG_found ksG_found knG kcG_found (by decide +kernel) dL_found_5 (hc) rfl hg0 rfl rfl (Nat.le_of_ble_eq_true rfl) ⟨Nat.le_of_ble_eq_true rfl, Nat.le_of_ble_eq_true rfl⟩ ⟨Nat.le_of_ble_eq_true rfl, Nat.le_of_ble_eq_true rfl⟩ (fun r' n' M1 hp => ?_)
  obtain ⟨hr', hn', hG1, hf1⟩ := hp
  rw [hn', hr']
  show xW p l e ({ frames := 9, cells := 0, slots := 0, locals := 230 } : Room) s m args below meth c D xcl (x_A M nx) 5 (MQ below (x_Q D xcl (x_A M nx) (fun r n' M' => r = some (.int (nI 0)) ∧ n' = nx ∧ (∃ f2 : Nat → Int64, M' o = some (.inl (.long, 1, .inr (.inl f2))) ∧ f2 0 = v) ∧ (∀ b, (b < g ∨ g + 45 < b) → b ≠ o → M' b = M b) ∧ gIs M' g γ2)) args s 0 0 (x_A M nx)) 0 0 (nx) M1 8 [(0, .ref (g)), (1, .int (p0)), (2, .int (p1)), (3, .ref (o))] [.long (v), .int (nI (0)), .ref (o)]
  refine x_last F dL_found_8 ((hf1 _ (by omega)).trans ho) (pk_in (0) (1) (by omega)) ?_
  rw [nI_clamp (show 0 < 2 ^ 31 by omega)]
  show xW p l e ({ frames := 9, cells := 0, slots := 0, locals := 230 } : Room) s m args below meth c D xcl (x_A M nx) 5 (MQ below (x_Q D xcl (x_A M nx) (fun r n' M' => r = some (.int (nI 0)) ∧ n' = nx ∧ (∃ f2 : Nat → Int64, M' o = some (.inl (.long, 1, .inr (.inl f2))) ∧ f2 0 = v) ∧ (∀ b, (b < g ∨ g + 45 < b) → b ≠ o → M' b = M b) ∧ gIs M' g γ2)) args s 0 0 (x_A M nx)) 0 0 (nx) (x_up M1 (o) (.inl (.long, 1, .inr (.inl (vp_updL (f1) (0) (v)))))) 9 [(0, .ref (g)), (1, .int (p0)), (2, .int (p1)), (3, .ref (o))] []
  refine x_goto F (tgt := 16) dL_found_9 (by decide) ?_
  refine x_iconst F (v := nI (0)) dL_found_16 (by decide) ?_
  exact x_iret F hr dL_found_17 (⟨rfl, rfl, ⟨_, x_up_s, rfl⟩, fun b h1 h2 => (x_up_n h2).trans (hf1 b h1), gIs_fr hG1 (fun b h1 h2 => x_up_n (by omega))⟩)
set_option maxHeartbeats 2000000 in
set_option maxRecDepth 100000 in
theorem cH_foundJI (l : Launch) (nx : Nat) (M : xH) (g o : Nat) (fs : List Value) (fr lo : Nat) (P0 : Nat → xH → Prop) (p0 p1 : Int32) (hg0 : M g = some (.inr (5, fs))) (hfr : fr ≤ 8) (hlo : lo ≤ 200) (hc : xT_ l xcl yG_found (xw (Cond.code yG_found bG_found 3 (some .long))) ({ frames := fr, cells := 1, slots := 6, locals := lo } : Room) [.ref g, .int (p0), .int (p1)] nx M "java/lang/IndexOutOfBoundsException" P0) : xC l xcl yL_found (xw (Cond.codeWith yL_found bL_found 5 (some .int) [(0, 9, 12, 19)])) ({ frames := 9, cells := 1, slots := 6, locals := 230 } : Room) [.ref g, .int (p0), .int (p1), .ref o] nx M (fun r n' M' => r = some (.int (nI 1)) ∧ P0 n' M') := by
  refine xC.ofH (by decide) rfl (Nat.le_of_ble_eq_true rfl) ?_
  intro p e s m args below meth c D F hr htab
  refine x_aload_n F 3 dL_found_0 rfl rfl ?_
  refine x_iconst F (v := nI (0)) dL_found_1 (by decide) ?_
  refine x_aload_n F 0 dL_found_2 rfl rfl ?_
  refine x_iload_n F 1 dL_found_3 rfl rfl ?_
  refine x_iload_n F 2 dL_found_4 rfl rfl ?_
  refine x_invVC (n := 2) (As := [.int (p0), .int (p1)]) (ci := 5) (C := "GoodsTree") (K := "java/lang/IndexOutOfBoundsException") F (x_gV kmL_46 kiG_found ksG_found knG kcG_found) rfl (by decide +kernel) rfl dL_found_5 ⟨by show fr + 1 ≤ 9; omega, by show 8 + (3 + 11) + lo ≤ 230; omega⟩ hc hg0 rfl rfl (Nat.le_of_ble_eq_true rfl) ⟨Nat.le_refl 1, Nat.le_refl 6⟩ [] ⟨0, 9, 12, 19⟩ [] htab (by decide) (by decide) (x_m klL_19) (va_Nw.use rfl (F.2.2.2.2.1.2.2.2.2.1)) (fun z hz => by cases hz) (fun x n' M' hp => ?_)
  show xW p l e ({ frames := 9, cells := 1, slots := 6, locals := 230 } : Room) s m args below meth c D xcl (x_A M nx) 5 (MQ below (x_Q D xcl (x_A M nx) (fun r n' M' => r = some (.int (nI 1)) ∧ P0 n' M')) args s 1 6 (x_A M nx)) 1 6 (n') M' 12 [(0, .ref (g)), (1, .int (p0)), (2, .int (p1)), (3, .ref (o))] [.ref (x)]
  refine x_astore F [(4, .ref (x)), (0, .ref (g)), (1, .int (p0)), (2, .int (p1)), (3, .ref (o))] dL_found_12 (by decide) rfl ?_
  refine x_iconst F (v := nI (1)) dL_found_14 (by decide) ?_
  exact x_iret F hr dL_found_15 (⟨rfl, hp⟩)
