set_option maxHeartbeats 4000000 in
set_option maxRecDepth 100000 in
theorem lwc_116 {l : Launch} (hfl : x_fl l) {p : Program} {e : Env} {s : State} {m : MethodId} {below : List Frame} {meth : Method} {c : Code} {D : va_G} {b L : Nat} {xs : Nat → Int32} {g a o : Nat} (F : xF p s m #[Value.ref b] meth c D xcl (fun q => s.heap.size ≤ q) code 8 "GoodsTreeLaw" (xw (Cond.initialized "GoodsTreeLaw"))) (hX : va_X b L xs s s.heap) (hbl : b < s.heap.size) (hL : L ≤ 3584) (hga : g + 45 < a) (hao : a + 18 < o) {i cl sl nx1 : Nat} {M1 : xH} {f1 : Nat → Int64} (hi : i + 7 ≤ L) (hcl : cl + 1 ≤ 601024) (hsl : sl + 6 ≤ 7293034) (hRW : ∃ k, RWk M1 g a k) (ho : M1 o = some (.inl (.long, 1, .inr (.inl f1)))) (kk : ∀ (nx2 : Nat) (M2 : xH) (f2 : Nat → Int64) (cl2 sl2 : Nat), cl2 ≤ cl + 1 → sl2 ≤ sl + 6 → (∃ k, RWk M2 g a k) → M2 o = some (.inl (.long, 1, .inr (.inl f2))) → xW p l e room_1 s m #[Value.ref b] below meth c D xcl (fun q => s.heap.size ≤ q) 8 (lw_Z below #[Value.ref b] s) (cl2) (sl2) (nx2) M2 1169 [(4, .int (nI (i))), (0, .ref (b)), (1, .ref (g)), (2, .ref (a)), (3, .ref (o))] []) : xW p l e room_1 s m #[Value.ref b] below meth c D xcl (fun q => s.heap.size ≤ q) 8 (lw_Z below #[Value.ref b] s) (cl) (sl) (nx1) M1 116 [(4, .int (nI (i))), (0, .ref (b)), (1, .ref (g)), (2, .ref (a)), (3, .ref (o))] [] := by
  have hbA : ¬ (s.heap.size ≤ b) := by omega
  refine x_aload_n F 2 dL_law_116 rfl rfl ?_
  refine x_aload_n F 1 dL_law_117 rfl rfl ?_
  refine x_iload F 0 dL_law_118 rfl ?_
  refine x_iconst F (v := nI (1)) dL_law_120 (by decide) ?_
  refine x_iadd F dL_law_121 ?_
  refine xW.toi (nI (i + 1)) (nI_add _ _) ?_
  refine x_sld F hX hbl hbA (show i + 1 < L by omega) (by omega) dL_law_122 ?_
  obtain ⟨k0, hRW0⟩ := id hRW
  obtain ⟨fsg, hg0⟩ := RWk_g hRW0
  obtain ⟨fsa, ha0⟩ := RWk_a hRW0
  obtain ⟨v0, hcall⟩ := L_sign (l := l) (nx := nx1) hga hRW (xs (i + 1))
  refine yVr (n := 1) (As := [.int (xs (i + 1))]) (ci := 5) F kmL_53 kiG_sign ksG_sign knG kcG_sign (by decide +kernel) dL_law_123 hcall rfl hg0 rfl rfl (Nat.le_of_ble_eq_true rfl) ⟨Nat.le_of_ble_eq_true rfl, Nat.le_of_ble_eq_true rfl⟩ ⟨by show cl + 0 ≤ 601024; omega, by show sl + 0 ≤ 7293034; omega⟩ (fun r2 n2 M2 hp => ?_)
  obtain ⟨hr2, hn2, hfr2, hnext⟩ := hp
  rw [hn2, hr2]
  show xW p l e room_1 s m #[Value.ref b] below meth c D xcl (fun q => s.heap.size ≤ q) 8 (lw_Z below #[Value.ref b] s) (cl) (sl) (nx1) M2 126 [(4, .int (nI (i))), (0, .ref (b)), (1, .ref (g)), (2, .ref (a)), (3, .ref (o))] [.int (v0)]
  refine x_aload_n F 3 dL_law_126 rfl rfl ?_
  refine x_aload_n F 1 dL_law_127 rfl rfl ?_
  refine x_iload F 0 dL_law_128 rfl ?_
  refine x_iconst F (v := nI (1)) dL_law_130 (by decide) ?_
  refine x_iadd F dL_law_131 ?_
  refine xW.toi (nI (i + 1)) (nI_add _ _) ?_
  refine x_sld F hX hbl hbA (show i + 1 < L by omega) (by omega) dL_law_132 ?_
  refine yVr (n := 1) (As := [.int (xs (i + 1))]) (ci := 6) F kmL_57 kiM_sign ksM_sign knM kcM_sign (by decide +kernel) dL_law_133 (hnext (nx1)) rfl ((hfr2 a (Or.inr hga)).trans ha0) rfl rfl (Nat.le_of_ble_eq_true rfl) ⟨Nat.le_of_ble_eq_true rfl, Nat.le_of_ble_eq_true rfl⟩ ⟨by show cl + 0 ≤ 601024; omega, by show sl + 0 ≤ 7293034; omega⟩ (fun r3 n3 M3 hp => ?_)
  obtain ⟨hr3, hn3, hfr3, hRW3⟩ := hp
  rw [hn3, hr3]
  show xW p l e room_1 s m #[Value.ref b] below meth c D xcl (fun q => s.heap.size ≤ q) 8 (lw_Z below #[Value.ref b] s) (cl) (sl) (nx1) M3 136 [(4, .int (nI (i))), (0, .ref (b)), (1, .ref (g)), (2, .ref (a)), (3, .ref (o))] [.int (v0), .int (v0)]
  refine x_icmp_eq F (tgt := 1169) dL_law_136 (by decide) (fun c1 => ?_) (fun c1 => ?_)
  · skip
    exact kk _ _ _ _ _ (by omega) (by omega) hRW3 ((hfr3 o (Or.inr hao)).trans ((hfr2 o (Or.inr (by omega))).trans ho))
  · skip
    exact absurd rfl c1
set_option maxHeartbeats 4000000 in
set_option maxRecDepth 100000 in
theorem lwc_141 {l : Launch} (hfl : x_fl l) {p : Program} {e : Env} {s : State} {m : MethodId} {below : List Frame} {meth : Method} {c : Code} {D : va_G} {b L : Nat} {xs : Nat → Int32} {g a o : Nat} (F : xF p s m #[Value.ref b] meth c D xcl (fun q => s.heap.size ≤ q) code 8 "GoodsTreeLaw" (xw (Cond.initialized "GoodsTreeLaw"))) (hX : va_X b L xs s s.heap) (hbl : b < s.heap.size) (hL : L ≤ 3584) (hga : g + 45 < a) (hao : a + 18 < o) {i cl sl nx1 : Nat} {M1 : xH} {f1 : Nat → Int64} (hi : i + 7 ≤ L) (hcl : cl + 1 ≤ 601024) (hsl : sl + 6 ≤ 7293034) (hRW : ∃ k, RWk M1 g a k) (ho : M1 o = some (.inl (.long, 1, .inr (.inl f1)))) (kk : ∀ (nx2 : Nat) (M2 : xH) (f2 : Nat → Int64) (cl2 sl2 : Nat), cl2 ≤ cl + 1 → sl2 ≤ sl + 6 → (∃ k, RWk M2 g a k) → M2 o = some (.inl (.long, 1, .inr (.inl f2))) → xW p l e room_1 s m #[Value.ref b] below meth c D xcl (fun q => s.heap.size ≤ q) 8 (lw_Z below #[Value.ref b] s) (cl2) (sl2) (nx2) M2 1169 [(4, .int (nI (i))), (0, .ref (b)), (1, .ref (g)), (2, .ref (a)), (3, .ref (o))] []) : xW p l e room_1 s m #[Value.ref b] below meth c D xcl (fun q => s.heap.size ≤ q) 8 (lw_Z below #[Value.ref b] s) (cl) (sl) (nx1) M1 141 [(4, .int (nI (i))), (0, .ref (b)), (1, .ref (g)), (2, .ref (a)), (3, .ref (o))] [] := by
  have hbA : ¬ (s.heap.size ≤ b) := by omega
  refine x_aload_n F 2 dL_law_141 rfl rfl ?_
  refine x_aload_n F 4 dL_law_142 rfl rfl ?_
  obtain ⟨k0, hRW0⟩ := id hRW
  obtain ⟨fsa, ha0⟩ := RWk_a hRW0
  obtain ⟨kk0, b0, hcall⟩ := L_read (l := l) hfl (nx := nx1) hga hao ho hRW 
  refine ySH (n := 2) (As := [.ref (g), .ref (o)]) F rfl kmL_58 ktL_read knL kwL_read (by decide +kernel) dL_law_143 hcall rfl rfl (Nat.le_of_ble_eq_true rfl) ⟨Nat.le_of_ble_eq_true rfl, Nat.le_of_ble_eq_true rfl⟩ ⟨by show cl + 1 ≤ 601024; omega, by show sl + 6 ≤ 7293034; omega⟩ (fun r2 n2 M2 hp => ?_)
  obtain ⟨hr2, -, f2, ho2, hfr2, hnext⟩ := hp
  rw [hr2]
  show xW p l e room_1 s m #[Value.ref b] below meth c D xcl (fun q => s.heap.size ≤ q) 8 (lw_Z below #[Value.ref b] s) (cl + 1) (sl + 6) (n2) M2 146 [(4, .int (nI (i))), (0, .ref (b)), (1, .ref (g)), (2, .ref (a)), (3, .ref (o))] [.int (kk0)]
  refine x_istore F [(5, .int (kk0)), (4, .int (nI (i))), (0, .ref (b)), (1, .ref (g)), (2, .ref (a)), (3, .ref (o))] dL_law_146 (by decide) rfl ?_
  refine x_aload_n F 4 dL_law_148 rfl rfl ?_
  refine yVr (n := 0) (As := []) (ci := 6) F kmL_63 kiM_read ksM_read knM kcM_read (by decide +kernel) dL_law_149 (hnext n2) rfl ((hfr2 a (Or.inr hga) (by omega)).trans ha0) rfl rfl (Nat.le_of_ble_eq_true rfl) ⟨Nat.le_of_ble_eq_true rfl, Nat.le_of_ble_eq_true rfl⟩ ⟨by show cl + 1 + 0 ≤ 601024; omega, by show sl + 6 + 0 ≤ 7293034; omega⟩ (fun r3 n3 M3 hp => ?_)
  obtain ⟨hr3, hn3, hfr3, hRW3, hval⟩ := hp
  rw [hn3, hr3]
  show xW p l e room_1 s m #[Value.ref b] below meth c D xcl (fun q => s.heap.size ≤ q) 8 (lw_Z below #[Value.ref b] s) (cl + 1) (sl + 6) (n2) M3 152 [(5, .int (kk0)), (4, .int (nI (i))), (0, .ref (b)), (1, .ref (g)), (2, .ref (a)), (3, .ref (o))] [.int (b0)]
  refine x_istore F [(6, .int (b0)), (5, .int (kk0)), (4, .int (nI (i))), (0, .ref (b)), (1, .ref (g)), (2, .ref (a)), (3, .ref (o))] dL_law_152 (by decide) rfl ?_
  refine x_aload_n F 5 dL_law_154 rfl rfl ?_
  obtain ⟨fsb, hb0⟩ := RWk_a hRW3
  refine yVr (n := 0) (As := []) (ci := 6) F kmL_64 kiM_thrown ksM_thrown knM kcM_thrown (by decide +kernel) dL_law_155 (RWk_th hRW3) rfl hb0 rfl rfl (Nat.le_of_ble_eq_true rfl) ⟨Nat.le_of_ble_eq_true rfl, Nat.le_of_ble_eq_true rfl⟩ ⟨by show cl + 1 + 0 ≤ 601024; omega, by show sl + 6 + 0 ≤ 7293034; omega⟩ (fun r4 n4 M4 hp => ?_)
  obtain ⟨hr4, hn4, hM4⟩ := hp
  rw [hn4, hr4, hM4]
  show xW p l e room_1 s m #[Value.ref b] below meth c D xcl (fun q => s.heap.size ≤ q) 8 (lw_Z below #[Value.ref b] s) (cl + 1) (sl + 6) (n2) M3 158 [(6, .int (b0)), (5, .int (kk0)), (4, .int (nI (i))), (0, .ref (b)), (1, .ref (g)), (2, .ref (a)), (3, .ref (o))] [.int (kk0)]
  refine x_iload F 1 dL_law_158 rfl ?_
  refine x_icmp_eq F (tgt := 165) dL_law_160 (by decide) (fun c1 => ?_) (fun c1 => ?_)
  · skip
    refine x_iload F 1 dL_law_165 rfl ?_
    refine x_if_ne F (tgt := 182) dL_law_167 (by decide) (fun c2 => ?_) (fun c2 => ?_)
    · skip
      refine x_goto F (tgt := 1169) dL_law_182 (by decide) ?_
      refine xW.sub [2, 3, 4, 5, 6] rfl ?_
      exact kk _ _ _ _ _ (by omega) (by omega) ⟨_, hRW3⟩ ((hfr3 o (Or.inr hao)).trans ho2)
    · skip
      refine x_aload_n F 6 dL_law_170 rfl rfl ?_
      refine x_iconst F (v := nI (0)) dL_law_171 (by decide) ?_
      refine x_lald F dL_law_172 ((hfr3 o (Or.inr hao)).trans ho2) (pk_in (0) (1) (by omega)) ?_
      refine xW.tol ((f2) (0)) (by rw [nI_clamp (by omega)]) ?_
      refine x_iload F 0 dL_law_173 rfl ?_
      refine x_i2l F dL_law_175 ?_
      refine x_lcmp F dL_law_176 ?_
      refine x_if_eq F (tgt := 182) dL_law_177 (by decide) (fun c3 => ?_) (fun c3 => ?_)
      · skip
        have c3 : (f2) (0) = (b0).toInt64 := (lg_cmp_eq ((f2) (0)) ((b0).toInt64)).mp c3
        refine x_goto F (tgt := 1169) dL_law_182 (by decide) ?_
        refine xW.sub [2, 3, 4, 5, 6] rfl ?_
        exact kk _ _ _ _ _ (by omega) (by omega) ⟨_, hRW3⟩ ((hfr3 o (Or.inr hao)).trans ho2)
      · skip
        have c3 : ¬ (f2) (0) = (b0).toInt64 := fun z => c3 ((lg_cmp_eq ((f2) (0)) ((b0).toInt64)).mpr z)
        exact absurd (hval c2) c3
  · skip
    exact absurd rfl c1
set_option maxHeartbeats 4000000 in
set_option maxRecDepth 100000 in
theorem lwc_185 {l : Launch} (hfl : x_fl l) {p : Program} {e : Env} {s : State} {m : MethodId} {below : List Frame} {meth : Method} {c : Code} {D : va_G} {b L : Nat} {xs : Nat → Int32} {g a o : Nat} (F : xF p s m #[Value.ref b] meth c D xcl (fun q => s.heap.size ≤ q) code 8 "GoodsTreeLaw" (xw (Cond.initialized "GoodsTreeLaw"))) (hX : va_X b L xs s s.heap) (hbl : b < s.heap.size) (hL : L ≤ 3584) (hga : g + 45 < a) (hao : a + 18 < o) {i cl sl nx1 : Nat} {M1 : xH} {f1 : Nat → Int64} (hi : i + 7 ≤ L) (hcl : cl + 1 ≤ 601024) (hsl : sl + 6 ≤ 7293034) (hRW : ∃ k, RWk M1 g a k) (ho : M1 o = some (.inl (.long, 1, .inr (.inl f1)))) (kk : ∀ (nx2 : Nat) (M2 : xH) (f2 : Nat → Int64) (cl2 sl2 : Nat), cl2 ≤ cl + 1 → sl2 ≤ sl + 6 → (∃ k, RWk M2 g a k) → M2 o = some (.inl (.long, 1, .inr (.inl f2))) → xW p l e room_1 s m #[Value.ref b] below meth c D xcl (fun q => s.heap.size ≤ q) 8 (lw_Z below #[Value.ref b] s) (cl2) (sl2) (nx2) M2 1169 [(4, .int (nI (i))), (0, .ref (b)), (1, .ref (g)), (2, .ref (a)), (3, .ref (o))] []) : xW p l e room_1 s m #[Value.ref b] below meth c D xcl (fun q => s.heap.size ≤ q) 8 (lw_Z below #[Value.ref b] s) (cl) (sl) (nx1) M1 185 [(4, .int (nI (i))), (0, .ref (b)), (1, .ref (g)), (2, .ref (a)), (3, .ref (o))] [] := by
  have hbA : ¬ (s.heap.size ≤ b) := by omega
  refine x_aload_n F 2 dL_law_185 rfl rfl ?_
  refine x_aload_n F 1 dL_law_186 rfl rfl ?_
  refine x_iload F 0 dL_law_187 rfl ?_
  refine x_iconst F (v := nI (1)) dL_law_189 (by decide) ?_
  refine x_iadd F dL_law_190 ?_
  refine xW.toi (nI (i + 1)) (nI_add _ _) ?_
  refine x_sld F hX hbl hbA (show i + 1 < L by omega) (by omega) dL_law_191 ?_
  obtain ⟨k0, hRW0⟩ := id hRW
  obtain ⟨fsg, hg0⟩ := RWk_g hRW0
  obtain ⟨fsa, ha0⟩ := RWk_a hRW0
  obtain ⟨v0, hcall⟩ := L_failure (l := l) (nx := nx1) hga hRW (xs (i + 1))
  refine yVr (n := 1) (As := [.int (xs (i + 1))]) (ci := 5) F kmL_67 kiG_failure ksG_failure knG kcG_failure (by decide +kernel) dL_law_192 hcall rfl hg0 rfl rfl (Nat.le_of_ble_eq_true rfl) ⟨Nat.le_of_ble_eq_true rfl, Nat.le_of_ble_eq_true rfl⟩ ⟨by show cl + 0 ≤ 601024; omega, by show sl + 0 ≤ 7293034; omega⟩ (fun r2 n2 M2 hp => ?_)
  obtain ⟨hr2, hn2, hfr2, hnext⟩ := hp
  rw [hn2, hr2]
  show xW p l e room_1 s m #[Value.ref b] below meth c D xcl (fun q => s.heap.size ≤ q) 8 (lw_Z below #[Value.ref b] s) (cl) (sl) (nx1) M2 195 [(4, .int (nI (i))), (0, .ref (b)), (1, .ref (g)), (2, .ref (a)), (3, .ref (o))] [.int (v0)]
  refine x_aload_n F 3 dL_law_195 rfl rfl ?_
  refine x_aload_n F 1 dL_law_196 rfl rfl ?_
  refine x_iload F 0 dL_law_197 rfl ?_
  refine x_iconst F (v := nI (1)) dL_law_199 (by decide) ?_
  refine x_iadd F dL_law_200 ?_
  refine xW.toi (nI (i + 1)) (nI_add _ _) ?_
  refine x_sld F hX hbl hbA (show i + 1 < L by omega) (by omega) dL_law_201 ?_
  refine yVr (n := 1) (As := [.int (xs (i + 1))]) (ci := 6) F kmL_71 kiM_failure ksM_failure knM kcM_failure (by decide +kernel) dL_law_202 (hnext (nx1)) rfl ((hfr2 a (Or.inr hga)).trans ha0) rfl rfl (Nat.le_of_ble_eq_true rfl) ⟨Nat.le_of_ble_eq_true rfl, Nat.le_of_ble_eq_true rfl⟩ ⟨by show cl + 0 ≤ 601024; omega, by show sl + 0 ≤ 7293034; omega⟩ (fun r3 n3 M3 hp => ?_)
  obtain ⟨hr3, hn3, hfr3, hRW3⟩ := hp
  rw [hn3, hr3]
  show xW p l e room_1 s m #[Value.ref b] below meth c D xcl (fun q => s.heap.size ≤ q) 8 (lw_Z below #[Value.ref b] s) (cl) (sl) (nx1) M3 205 [(4, .int (nI (i))), (0, .ref (b)), (1, .ref (g)), (2, .ref (a)), (3, .ref (o))] [.int (v0), .int (v0)]
  refine x_icmp_eq F (tgt := 1169) dL_law_205 (by decide) (fun c1 => ?_) (fun c1 => ?_)
  · skip
    exact kk _ _ _ _ _ (by omega) (by omega) hRW3 ((hfr3 o (Or.inr hao)).trans ((hfr2 o (Or.inr (by omega))).trans ho))
  · skip
    exact absurd rfl c1
set_option maxHeartbeats 4000000 in
set_option maxRecDepth 100000 in
theorem lwc_210 {l : Launch} (hfl : x_fl l) {p : Program} {e : Env} {s : State} {m : MethodId} {below : List Frame} {meth : Method} {c : Code} {D : va_G} {b L : Nat} {xs : Nat → Int32} {g a o : Nat} (F : xF p s m #[Value.ref b] meth c D xcl (fun q => s.heap.size ≤ q) code 8 "GoodsTreeLaw" (xw (Cond.initialized "GoodsTreeLaw"))) (hX : va_X b L xs s s.heap) (hbl : b < s.heap.size) (hL : L ≤ 3584) (hga : g + 45 < a) (hao : a + 18 < o) {i cl sl nx1 : Nat} {M1 : xH} {f1 : Nat → Int64} (hi : i + 7 ≤ L) (hcl : cl + 1 ≤ 601024) (hsl : sl + 6 ≤ 7293034) (hRW : ∃ k, RWk M1 g a k) (ho : M1 o = some (.inl (.long, 1, .inr (.inl f1)))) (kk : ∀ (nx2 : Nat) (M2 : xH) (f2 : Nat → Int64) (cl2 sl2 : Nat), cl2 ≤ cl + 1 → sl2 ≤ sl + 6 → (∃ k, RWk M2 g a k) → M2 o = some (.inl (.long, 1, .inr (.inl f2))) → xW p l e room_1 s m #[Value.ref b] below meth c D xcl (fun q => s.heap.size ≤ q) 8 (lw_Z below #[Value.ref b] s) (cl2) (sl2) (nx2) M2 1169 [(4, .int (nI (i))), (0, .ref (b)), (1, .ref (g)), (2, .ref (a)), (3, .ref (o))] []) : xW p l e room_1 s m #[Value.ref b] below meth c D xcl (fun q => s.heap.size ≤ q) 8 (lw_Z below #[Value.ref b] s) (cl) (sl) (nx1) M1 210 [(4, .int (nI (i))), (0, .ref (b)), (1, .ref (g)), (2, .ref (a)), (3, .ref (o))] [] := by
  have hbA : ¬ (s.heap.size ≤ b) := by omega
  refine x_aload_n F 2 dL_law_210 rfl rfl ?_
  refine x_aload_n F 1 dL_law_211 rfl rfl ?_
  refine x_iload F 0 dL_law_212 rfl ?_
  refine x_iconst F (v := nI (1)) dL_law_214 (by decide) ?_
  refine x_iadd F dL_law_215 ?_
  refine xW.toi (nI (i + 1)) (nI_add _ _) ?_
  refine x_sld F hX hbl hbA (show i + 1 < L by omega) (by omega) dL_law_216 ?_
  obtain ⟨k0, hRW0⟩ := id hRW
  obtain ⟨fsg, hg0⟩ := RWk_g hRW0
  obtain ⟨fsa, ha0⟩ := RWk_a hRW0
  obtain ⟨v0, hcall⟩ := L_edition (l := l) (nx := nx1) hga hRW (xs (i + 1))
  refine yVr (n := 1) (As := [.int (xs (i + 1))]) (ci := 5) F kmL_72 kiG_edition ksG_edition knG kcG_edition (by decide +kernel) dL_law_217 hcall rfl hg0 rfl rfl (Nat.le_of_ble_eq_true rfl) ⟨Nat.le_of_ble_eq_true rfl, Nat.le_of_ble_eq_true rfl⟩ ⟨by show cl + 0 ≤ 601024; omega, by show sl + 0 ≤ 7293034; omega⟩ (fun r2 n2 M2 hp => ?_)
  obtain ⟨hr2, hn2, hfr2, hnext⟩ := hp
  rw [hn2, hr2]
  show xW p l e room_1 s m #[Value.ref b] below meth c D xcl (fun q => s.heap.size ≤ q) 8 (lw_Z below #[Value.ref b] s) (cl) (sl) (nx1) M2 220 [(4, .int (nI (i))), (0, .ref (b)), (1, .ref (g)), (2, .ref (a)), (3, .ref (o))] [.int (v0)]
  refine x_aload_n F 3 dL_law_220 rfl rfl ?_
  refine x_aload_n F 1 dL_law_221 rfl rfl ?_
  refine x_iload F 0 dL_law_222 rfl ?_
  refine x_iconst F (v := nI (1)) dL_law_224 (by decide) ?_
  refine x_iadd F dL_law_225 ?_
  refine xW.toi (nI (i + 1)) (nI_add _ _) ?_
  refine x_sld F hX hbl hbA (show i + 1 < L by omega) (by omega) dL_law_226 ?_
  refine yVr (n := 1) (As := [.int (xs (i + 1))]) (ci := 6) F kmL_75 kiM_edition ksM_edition knM kcM_edition (by decide +kernel) dL_law_227 (hnext (nx1)) rfl ((hfr2 a (Or.inr hga)).trans ha0) rfl rfl (Nat.le_of_ble_eq_true rfl) ⟨Nat.le_of_ble_eq_true rfl, Nat.le_of_ble_eq_true rfl⟩ ⟨by show cl + 0 ≤ 601024; omega, by show sl + 0 ≤ 7293034; omega⟩ (fun r3 n3 M3 hp => ?_)
  obtain ⟨hr3, hn3, hfr3, hRW3⟩ := hp
  rw [hn3, hr3]
  show xW p l e room_1 s m #[Value.ref b] below meth c D xcl (fun q => s.heap.size ≤ q) 8 (lw_Z below #[Value.ref b] s) (cl) (sl) (nx1) M3 230 [(4, .int (nI (i))), (0, .ref (b)), (1, .ref (g)), (2, .ref (a)), (3, .ref (o))] [.int (v0), .int (v0)]
  refine x_icmp_eq F (tgt := 1169) dL_law_230 (by decide) (fun c1 => ?_) (fun c1 => ?_)
  · skip
    exact kk _ _ _ _ _ (by omega) (by omega) hRW3 ((hfr3 o (Or.inr hao)).trans ((hfr2 o (Or.inr (by omega))).trans ho))
  · skip
    exact absurd rfl c1
set_option maxHeartbeats 4000000 in
set_option maxRecDepth 100000 in
theorem lwc_235 {l : Launch} (hfl : x_fl l) {p : Program} {e : Env} {s : State} {m : MethodId} {below : List Frame} {meth : Method} {c : Code} {D : va_G} {b L : Nat} {xs : Nat → Int32} {g a o : Nat} (F : xF p s m #[Value.ref b] meth c D xcl (fun q => s.heap.size ≤ q) code 8 "GoodsTreeLaw" (xw (Cond.initialized "GoodsTreeLaw"))) (hX : va_X b L xs s s.heap) (hbl : b < s.heap.size) (hL : L ≤ 3584) (hga : g + 45 < a) (hao : a + 18 < o) {i cl sl nx1 : Nat} {M1 : xH} {f1 : Nat → Int64} (hi : i + 7 ≤ L) (hcl : cl + 1 ≤ 601024) (hsl : sl + 6 ≤ 7293034) (hRW : ∃ k, RWk M1 g a k) (ho : M1 o = some (.inl (.long, 1, .inr (.inl f1)))) (kk : ∀ (nx2 : Nat) (M2 : xH) (f2 : Nat → Int64) (cl2 sl2 : Nat), cl2 ≤ cl + 1 → sl2 ≤ sl + 6 → (∃ k, RWk M2 g a k) → M2 o = some (.inl (.long, 1, .inr (.inl f2))) → xW p l e room_1 s m #[Value.ref b] below meth c D xcl (fun q => s.heap.size ≤ q) 8 (lw_Z below #[Value.ref b] s) (cl2) (sl2) (nx2) M2 1169 [(4, .int (nI (i))), (0, .ref (b)), (1, .ref (g)), (2, .ref (a)), (3, .ref (o))] []) : xW p l e room_1 s m #[Value.ref b] below meth c D xcl (fun q => s.heap.size ≤ q) 8 (lw_Z below #[Value.ref b] s) (cl) (sl) (nx1) M1 235 [(4, .int (nI (i))), (0, .ref (b)), (1, .ref (g)), (2, .ref (a)), (3, .ref (o))] [] := by
  have hbA : ¬ (s.heap.size ≤ b) := by omega
  refine x_aload_n F 2 dL_law_235 rfl rfl ?_
  refine x_aload_n F 1 dL_law_236 rfl rfl ?_
  refine x_iload F 0 dL_law_237 rfl ?_
  refine x_iconst F (v := nI (1)) dL_law_239 (by decide) ?_
  refine x_iadd F dL_law_240 ?_
  refine xW.toi (nI (i + 1)) (nI_add _ _) ?_
  refine x_sld F hX hbl hbA (show i + 1 < L by omega) (by omega) dL_law_241 ?_
  refine x_aload_n F 1 dL_law_242 rfl rfl ?_
  refine x_iload F 0 dL_law_243 rfl ?_
  refine x_iconst F (v := nI (2)) dL_law_245 (by decide) ?_
  refine x_iadd F dL_law_246 ?_
  refine xW.toi (nI (i + 2)) (nI_add _ _) ?_
  refine x_sld F hX hbl hbA (show i + 2 < L by omega) (by omega) dL_law_247 ?_
  refine x_aload_n F 4 dL_law_248 rfl rfl ?_
  obtain ⟨k0, hRW0⟩ := id hRW
  obtain ⟨fsa, ha0⟩ := RWk_a hRW0
  obtain ⟨kk0, b0, hcall⟩ := L_row (l := l) hfl (nx := nx1) hga hao ho hRW (xs (i + 1)) (xs (i + 2))
  refine ySH (n := 4) (As := [.ref (g), .int (xs (i + 1)), .int (xs (i + 2)), .ref (o)]) F rfl kmL_76 ktL_row knL kwL_row (by decide +kernel) dL_law_249 hcall rfl rfl (Nat.le_of_ble_eq_true rfl) ⟨Nat.le_of_ble_eq_true rfl, Nat.le_of_ble_eq_true rfl⟩ ⟨by show cl + 1 ≤ 601024; omega, by show sl + 6 ≤ 7293034; omega⟩ (fun r2 n2 M2 hp => ?_)
  obtain ⟨hr2, -, f2, ho2, hfr2, hnext⟩ := hp
  rw [hr2]
  show xW p l e room_1 s m #[Value.ref b] below meth c D xcl (fun q => s.heap.size ≤ q) 8 (lw_Z below #[Value.ref b] s) (cl + 1) (sl + 6) (n2) M2 252 [(4, .int (nI (i))), (0, .ref (b)), (1, .ref (g)), (2, .ref (a)), (3, .ref (o))] [.int (kk0)]
  refine x_istore F [(5, .int (kk0)), (4, .int (nI (i))), (0, .ref (b)), (1, .ref (g)), (2, .ref (a)), (3, .ref (o))] dL_law_252 (by decide) rfl ?_
  refine x_aload_n F 4 dL_law_254 rfl rfl ?_
  refine x_aload_n F 2 dL_law_255 rfl rfl ?_
  refine x_iload F 1 dL_law_256 rfl ?_
  refine x_iconst F (v := nI (1)) dL_law_258 (by decide) ?_
  refine x_iadd F dL_law_259 ?_
  refine xW.toi (nI (i + 1)) (nI_add _ _) ?_
  refine x_sld F hX hbl hbA (show i + 1 < L by omega) (by omega) dL_law_260 ?_
  refine x_aload_n F 2 dL_law_261 rfl rfl ?_
  refine x_iload F 1 dL_law_262 rfl ?_
  refine x_iconst F (v := nI (2)) dL_law_264 (by decide) ?_
  refine x_iadd F dL_law_265 ?_
  refine xW.toi (nI (i + 2)) (nI_add _ _) ?_
  refine x_sld F hX hbl hbA (show i + 2 < L by omega) (by omega) dL_law_266 ?_
  refine yVr (n := 2) (As := [.int (xs (i + 1)), .int (xs (i + 2))]) (ci := 6) F kmL_79 kiM_row ksM_row knM kcM_row (by decide +kernel) dL_law_267 (hnext n2) rfl ((hfr2 a (Or.inr hga) (by omega)).trans ha0) rfl rfl (Nat.le_of_ble_eq_true rfl) ⟨Nat.le_of_ble_eq_true rfl, Nat.le_of_ble_eq_true rfl⟩ ⟨by show cl + 1 + 0 ≤ 601024; omega, by show sl + 6 + 0 ≤ 7293034; omega⟩ (fun r3 n3 M3 hp => ?_)
  obtain ⟨hr3, hn3, hfr3, hRW3, hval⟩ := hp
  rw [hn3, hr3]
  show xW p l e room_1 s m #[Value.ref b] below meth c D xcl (fun q => s.heap.size ≤ q) 8 (lw_Z below #[Value.ref b] s) (cl + 1) (sl + 6) (n2) M3 270 [(5, .int (kk0)), (4, .int (nI (i))), (0, .ref (b)), (1, .ref (g)), (2, .ref (a)), (3, .ref (o))] [.long (b0)]
  refine x_lstore F [(6, .long (b0)), (5, .int (kk0)), (4, .int (nI (i))), (0, .ref (b)), (1, .ref (g)), (2, .ref (a)), (3, .ref (o))] dL_law_270 (by decide) rfl ?_
  refine x_aload_n F 5 dL_law_272 rfl rfl ?_
  obtain ⟨fsb, hb0⟩ := RWk_a hRW3
  refine yVr (n := 0) (As := []) (ci := 6) F kmL_64 kiM_thrown ksM_thrown knM kcM_thrown (by decide +kernel) dL_law_273 (RWk_th hRW3) rfl hb0 rfl rfl (Nat.le_of_ble_eq_true rfl) ⟨Nat.le_of_ble_eq_true rfl, Nat.le_of_ble_eq_true rfl⟩ ⟨by show cl + 1 + 0 ≤ 601024; omega, by show sl + 6 + 0 ≤ 7293034; omega⟩ (fun r4 n4 M4 hp => ?_)
  obtain ⟨hr4, hn4, hM4⟩ := hp
  rw [hn4, hr4, hM4]
  show xW p l e room_1 s m #[Value.ref b] below meth c D xcl (fun q => s.heap.size ≤ q) 8 (lw_Z below #[Value.ref b] s) (cl + 1) (sl + 6) (n2) M3 276 [(6, .long (b0)), (5, .int (kk0)), (4, .int (nI (i))), (0, .ref (b)), (1, .ref (g)), (2, .ref (a)), (3, .ref (o))] [.int (kk0)]
  refine x_iload F 1 dL_law_276 rfl ?_
  refine x_icmp_eq F (tgt := 283) dL_law_278 (by decide) (fun c1 => ?_) (fun c1 => ?_)
  · skip
    refine x_iload F 1 dL_law_283 rfl ?_
    refine x_if_ne F (tgt := 299) dL_law_285 (by decide) (fun c2 => ?_) (fun c2 => ?_)
    · skip
      refine x_goto F (tgt := 1169) dL_law_299 (by decide) ?_
      refine xW.sub [2, 3, 4, 5, 6] rfl ?_
      exact kk _ _ _ _ _ (by omega) (by omega) ⟨_, hRW3⟩ ((hfr3 o (Or.inr hao)).trans ho2)
    · skip
      refine x_aload_n F 6 dL_law_288 rfl rfl ?_
      refine x_iconst F (v := nI (0)) dL_law_289 (by decide) ?_
      refine x_lald F dL_law_290 ((hfr3 o (Or.inr hao)).trans ho2) (pk_in (0) (1) (by omega)) ?_
      refine xW.tol ((f2) (0)) (by rw [nI_clamp (by omega)]) ?_
      refine x_lload F 0 dL_law_291 rfl ?_
      refine x_lcmp F dL_law_293 ?_
      refine x_if_eq F (tgt := 299) dL_law_294 (by decide) (fun c3 => ?_) (fun c3 => ?_)
      · skip
        have c3 : (f2) (0) = b0 := (lg_cmp_eq ((f2) (0)) (b0)).mp c3
        refine x_goto F (tgt := 1169) dL_law_299 (by decide) ?_
        refine xW.sub [2, 3, 4, 5, 6] rfl ?_
        exact kk _ _ _ _ _ (by omega) (by omega) ⟨_, hRW3⟩ ((hfr3 o (Or.inr hao)).trans ho2)
      · skip
        have c3 : ¬ (f2) (0) = b0 := fun z => c3 ((lg_cmp_eq ((f2) (0)) (b0)).mpr z)
        exact absurd (hval c2) c3
  · skip
    exact absurd rfl c1
set_option maxHeartbeats 4000000 in
set_option maxRecDepth 100000 in
theorem lwc_302 {l : Launch} (hfl : x_fl l) {p : Program} {e : Env} {s : State} {m : MethodId} {below : List Frame} {meth : Method} {c : Code} {D : va_G} {b L : Nat} {xs : Nat → Int32} {g a o : Nat} (F : xF p s m #[Value.ref b] meth c D xcl (fun q => s.heap.size ≤ q) code 8 "GoodsTreeLaw" (xw (Cond.initialized "GoodsTreeLaw"))) (hX : va_X b L xs s s.heap) (hbl : b < s.heap.size) (hL : L ≤ 3584) (hga : g + 45 < a) (hao : a + 18 < o) {i cl sl nx1 : Nat} {M1 : xH} {f1 : Nat → Int64} (hi : i + 7 ≤ L) (hcl : cl + 1 ≤ 601024) (hsl : sl + 6 ≤ 7293034) (hRW : ∃ k, RWk M1 g a k) (ho : M1 o = some (.inl (.long, 1, .inr (.inl f1)))) (kk : ∀ (nx2 : Nat) (M2 : xH) (f2 : Nat → Int64) (cl2 sl2 : Nat), cl2 ≤ cl + 1 → sl2 ≤ sl + 6 → (∃ k, RWk M2 g a k) → M2 o = some (.inl (.long, 1, .inr (.inl f2))) → xW p l e room_1 s m #[Value.ref b] below meth c D xcl (fun q => s.heap.size ≤ q) 8 (lw_Z below #[Value.ref b] s) (cl2) (sl2) (nx2) M2 1169 [(4, .int (nI (i))), (0, .ref (b)), (1, .ref (g)), (2, .ref (a)), (3, .ref (o))] []) : xW p l e room_1 s m #[Value.ref b] below meth c D xcl (fun q => s.heap.size ≤ q) 8 (lw_Z below #[Value.ref b] s) (cl) (sl) (nx1) M1 302 [(4, .int (nI (i))), (0, .ref (b)), (1, .ref (g)), (2, .ref (a)), (3, .ref (o))] [] := by
  have hbA : ¬ (s.heap.size ≤ b) := by omega
  refine x_aload_n F 2 dL_law_302 rfl rfl ?_
  refine x_aload_n F 1 dL_law_303 rfl rfl ?_
  refine x_iload F 0 dL_law_304 rfl ?_
  refine x_iconst F (v := nI (1)) dL_law_306 (by decide) ?_
  refine x_iadd F dL_law_307 ?_
  refine xW.toi (nI (i + 1)) (nI_add _ _) ?_
  refine x_sld F hX hbl hbA (show i + 1 < L by omega) (by omega) dL_law_308 ?_
  refine x_i2l F dL_law_309 ?_
  refine x_bipush F (v := nI (32)) dL_law_310 (by decide) ?_
  refine x_lshl F dL_law_312 ?_
  refine x_aload_n F 1 dL_law_313 rfl rfl ?_
  refine x_iload F 0 dL_law_314 rfl ?_
  refine x_iconst F (v := nI (2)) dL_law_316 (by decide) ?_
  refine x_iadd F dL_law_317 ?_
  refine xW.toi (nI (i + 2)) (nI_add _ _) ?_
  refine x_sld F hX hbl hbA (show i + 2 < L by omega) (by omega) dL_law_318 ?_
  refine x_i2l F dL_law_319 ?_
  refine x_ldc2 F (x_m kjL_80) dL_law_320 ?_
  refine x_land F dL_law_323 ?_
  refine x_lor F dL_law_324 ?_
  obtain ⟨k0, hRW0⟩ := id hRW
  obtain ⟨fsg, hg0⟩ := RWk_g hRW0
  obtain ⟨fsa, ha0⟩ := RWk_a hRW0
  obtain ⟨v0, hcall⟩ := L_find (l := l) (nx := nx1) hga hRW ((((xs (i + 1)).toInt64) <<< ((nI (32)).toInt64 &&& 63)) ||| (((xs (i + 2)).toInt64) &&& (4294967295)))
  refine yVr (n := 1) (As := [.long ((((xs (i + 1)).toInt64) <<< ((nI (32)).toInt64 &&& 63)) ||| (((xs (i + 2)).toInt64) &&& (4294967295)))]) (ci := 5) F kmL_82 kiG_find ksG_find knG kcG_find (by decide +kernel) dL_law_325 hcall rfl hg0 rfl rfl (Nat.le_of_ble_eq_true rfl) ⟨Nat.le_of_ble_eq_true rfl, Nat.le_of_ble_eq_true rfl⟩ ⟨by show cl + 0 ≤ 601024; omega, by show sl + 0 ≤ 7293034; omega⟩ (fun r2 n2 M2 hp => ?_)
  obtain ⟨hr2, hn2, hfr2, hnext⟩ := hp
  rw [hn2, hr2]
  show xW p l e room_1 s m #[Value.ref b] below meth c D xcl (fun q => s.heap.size ≤ q) 8 (lw_Z below #[Value.ref b] s) (cl) (sl) (nx1) M2 328 [(4, .int (nI (i))), (0, .ref (b)), (1, .ref (g)), (2, .ref (a)), (3, .ref (o))] [.int (v0)]
  refine x_aload_n F 3 dL_law_328 rfl rfl ?_
  refine x_aload_n F 1 dL_law_329 rfl rfl ?_
  refine x_iload F 0 dL_law_330 rfl ?_
  refine x_iconst F (v := nI (1)) dL_law_332 (by decide) ?_
  refine x_iadd F dL_law_333 ?_
  refine xW.toi (nI (i + 1)) (nI_add _ _) ?_
  refine x_sld F hX hbl hbA (show i + 1 < L by omega) (by omega) dL_law_334 ?_
  refine x_i2l F dL_law_335 ?_
  refine x_bipush F (v := nI (32)) dL_law_336 (by decide) ?_
  refine x_lshl F dL_law_338 ?_
  refine x_aload_n F 1 dL_law_339 rfl rfl ?_
  refine x_iload F 0 dL_law_340 rfl ?_
  refine x_iconst F (v := nI (2)) dL_law_342 (by decide) ?_
  refine x_iadd F dL_law_343 ?_
  refine xW.toi (nI (i + 2)) (nI_add _ _) ?_
  refine x_sld F hX hbl hbA (show i + 2 < L by omega) (by omega) dL_law_344 ?_
  refine x_i2l F dL_law_345 ?_
  refine x_ldc2 F (x_m kjL_80) dL_law_346 ?_
  refine x_land F dL_law_349 ?_
  refine x_lor F dL_law_350 ?_
  refine yVr (n := 1) (As := [.long ((((xs (i + 1)).toInt64) <<< ((nI (32)).toInt64 &&& 63)) ||| (((xs (i + 2)).toInt64) &&& (4294967295)))]) (ci := 6) F kmL_86 kiM_find ksM_find knM kcM_find (by decide +kernel) dL_law_351 (hnext (nx1)) rfl ((hfr2 a (Or.inr hga)).trans ha0) rfl rfl (Nat.le_of_ble_eq_true rfl) ⟨Nat.le_of_ble_eq_true rfl, Nat.le_of_ble_eq_true rfl⟩ ⟨by show cl + 0 ≤ 601024; omega, by show sl + 0 ≤ 7293034; omega⟩ (fun r3 n3 M3 hp => ?_)
  obtain ⟨hr3, hn3, hfr3, hRW3⟩ := hp
  rw [hn3, hr3]
  show xW p l e room_1 s m #[Value.ref b] below meth c D xcl (fun q => s.heap.size ≤ q) 8 (lw_Z below #[Value.ref b] s) (cl) (sl) (nx1) M3 354 [(4, .int (nI (i))), (0, .ref (b)), (1, .ref (g)), (2, .ref (a)), (3, .ref (o))] [.int (v0), .int (v0)]
  refine x_icmp_eq F (tgt := 1169) dL_law_354 (by decide) (fun c1 => ?_) (fun c1 => ?_)
  · skip
    exact kk _ _ _ _ _ (by omega) (by omega) hRW3 ((hfr3 o (Or.inr hao)).trans ((hfr2 o (Or.inr (by omega))).trans ho))
  · skip
    exact absurd rfl c1
set_option maxHeartbeats 4000000 in
set_option maxRecDepth 100000 in
theorem lwc_359 {l : Launch} (hfl : x_fl l) {p : Program} {e : Env} {s : State} {m : MethodId} {below : List Frame} {meth : Method} {c : Code} {D : va_G} {b L : Nat} {xs : Nat → Int32} {g a o : Nat} (F : xF p s m #[Value.ref b] meth c D xcl (fun q => s.heap.size ≤ q) code 8 "GoodsTreeLaw" (xw (Cond.initialized "GoodsTreeLaw"))) (hX : va_X b L xs s s.heap) (hbl : b < s.heap.size) (hL : L ≤ 3584) (hga : g + 45 < a) (hao : a + 18 < o) {i cl sl nx1 : Nat} {M1 : xH} {f1 : Nat → Int64} (hi : i + 7 ≤ L) (hcl : cl + 1 ≤ 601024) (hsl : sl + 6 ≤ 7293034) (hRW : ∃ k, RWk M1 g a k) (ho : M1 o = some (.inl (.long, 1, .inr (.inl f1)))) (kk : ∀ (nx2 : Nat) (M2 : xH) (f2 : Nat → Int64) (cl2 sl2 : Nat), cl2 ≤ cl + 1 → sl2 ≤ sl + 6 → (∃ k, RWk M2 g a k) → M2 o = some (.inl (.long, 1, .inr (.inl f2))) → xW p l e room_1 s m #[Value.ref b] below meth c D xcl (fun q => s.heap.size ≤ q) 8 (lw_Z below #[Value.ref b] s) (cl2) (sl2) (nx2) M2 1169 [(4, .int (nI (i))), (0, .ref (b)), (1, .ref (g)), (2, .ref (a)), (3, .ref (o))] []) : xW p l e room_1 s m #[Value.ref b] below meth c D xcl (fun q => s.heap.size ≤ q) 8 (lw_Z below #[Value.ref b] s) (cl) (sl) (nx1) M1 359 [(4, .int (nI (i))), (0, .ref (b)), (1, .ref (g)), (2, .ref (a)), (3, .ref (o))] [] := by
  have hbA : ¬ (s.heap.size ≤ b) := by omega
  refine x_aload_n F 2 dL_law_359 rfl rfl ?_
  refine x_aload_n F 1 dL_law_360 rfl rfl ?_
  refine x_iload F 0 dL_law_361 rfl ?_
  refine x_iconst F (v := nI (1)) dL_law_363 (by decide) ?_
  refine x_iadd F dL_law_364 ?_
  refine xW.toi (nI (i + 1)) (nI_add _ _) ?_
  refine x_sld F hX hbl hbA (show i + 1 < L by omega) (by omega) dL_law_365 ?_
  refine x_i2l F dL_law_366 ?_
  refine x_bipush F (v := nI (32)) dL_law_367 (by decide) ?_
  refine x_lshl F dL_law_369 ?_
  refine x_aload_n F 1 dL_law_370 rfl rfl ?_
  refine x_iload F 0 dL_law_371 rfl ?_
  refine x_iconst F (v := nI (2)) dL_law_373 (by decide) ?_
  refine x_iadd F dL_law_374 ?_
  refine xW.toi (nI (i + 2)) (nI_add _ _) ?_
  refine x_sld F hX hbl hbA (show i + 2 < L by omega) (by omega) dL_law_375 ?_
  refine x_i2l F dL_law_376 ?_
  refine x_ldc2 F (x_m kjL_80) dL_law_377 ?_
  refine x_land F dL_law_380 ?_
  refine x_lor F dL_law_381 ?_
  refine x_aload_n F 1 dL_law_382 rfl rfl ?_
  refine x_iload F 0 dL_law_383 rfl ?_
  refine x_iconst F (v := nI (3)) dL_law_385 (by decide) ?_
  refine x_iadd F dL_law_386 ?_
  refine xW.toi (nI (i + 3)) (nI_add _ _) ?_
  refine x_sld F hX hbl hbA (show i + 3 < L by omega) (by omega) dL_law_387 ?_
  refine x_aload_n F 1 dL_law_388 rfl rfl ?_
  refine x_iload F 0 dL_law_389 rfl ?_
  refine x_iconst F (v := nI (4)) dL_law_391 (by decide) ?_
  refine x_iadd F dL_law_392 ?_
  refine xW.toi (nI (i + 4)) (nI_add _ _) ?_
  refine x_sld F hX hbl hbA (show i + 4 < L by omega) (by omega) dL_law_393 ?_
  refine x_i2l F dL_law_394 ?_
  refine x_bipush F (v := nI (32)) dL_law_395 (by decide) ?_
  refine x_lshl F dL_law_397 ?_
  refine x_aload_n F 1 dL_law_398 rfl rfl ?_
  refine x_iload F 0 dL_law_399 rfl ?_
  refine x_iconst F (v := nI (5)) dL_law_401 (by decide) ?_
  refine x_iadd F dL_law_402 ?_
  refine xW.toi (nI (i + 5)) (nI_add _ _) ?_
  refine x_sld F hX hbl hbA (show i + 5 < L by omega) (by omega) dL_law_403 ?_
  refine x_i2l F dL_law_404 ?_
  refine x_ldc2 F (x_m kjL_80) dL_law_405 ?_
  refine x_land F dL_law_408 ?_
  refine x_lor F dL_law_409 ?_
  refine x_aload_n F 4 dL_law_410 rfl rfl ?_
  obtain ⟨k0, hRW0⟩ := id hRW
  obtain ⟨fsa, ha0⟩ := RWk_a hRW0
  obtain ⟨kk0, b0, hcall⟩ := L_note (l := l) hfl (nx := nx1) hga hao ho hRW ((((xs (i + 1)).toInt64) <<< ((nI (32)).toInt64 &&& 63)) ||| (((xs (i + 2)).toInt64) &&& (4294967295))) (xs (i + 3)) ((((xs (i + 4)).toInt64) <<< ((nI (32)).toInt64 &&& 63)) ||| (((xs (i + 5)).toInt64) &&& (4294967295)))
  refine ySH (n := 5) (As := [.ref (g), .long ((((xs (i + 1)).toInt64) <<< ((nI (32)).toInt64 &&& 63)) ||| (((xs (i + 2)).toInt64) &&& (4294967295))), .int (xs (i + 3)), .long ((((xs (i + 4)).toInt64) <<< ((nI (32)).toInt64 &&& 63)) ||| (((xs (i + 5)).toInt64) &&& (4294967295))), .ref (o)]) F rfl kmL_87 ktL_note knL kwL_note (by decide +kernel) dL_law_411 hcall rfl rfl (Nat.le_of_ble_eq_true rfl) ⟨Nat.le_of_ble_eq_true rfl, Nat.le_of_ble_eq_true rfl⟩ ⟨by show cl + 1 ≤ 601024; omega, by show sl + 6 ≤ 7293034; omega⟩ (fun r2 n2 M2 hp => ?_)
  obtain ⟨hr2, -, f2, ho2, hfr2, hnext⟩ := hp
  rw [hr2]
  show xW p l e room_1 s m #[Value.ref b] below meth c D xcl (fun q => s.heap.size ≤ q) 8 (lw_Z below #[Value.ref b] s) (cl + 1) (sl + 6) (n2) M2 414 [(4, .int (nI (i))), (0, .ref (b)), (1, .ref (g)), (2, .ref (a)), (3, .ref (o))] [.int (kk0)]
  refine x_istore F [(5, .int (kk0)), (4, .int (nI (i))), (0, .ref (b)), (1, .ref (g)), (2, .ref (a)), (3, .ref (o))] dL_law_414 (by decide) rfl ?_
  refine x_aload_n F 4 dL_law_416 rfl rfl ?_
  refine x_aload_n F 2 dL_law_417 rfl rfl ?_
  refine x_iload F 1 dL_law_418 rfl ?_
  refine x_iconst F (v := nI (1)) dL_law_420 (by decide) ?_
  refine x_iadd F dL_law_421 ?_
  refine xW.toi (nI (i + 1)) (nI_add _ _) ?_
  refine x_sld F hX hbl hbA (show i + 1 < L by omega) (by omega) dL_law_422 ?_
  refine x_i2l F dL_law_423 ?_
  refine x_bipush F (v := nI (32)) dL_law_424 (by decide) ?_
  refine x_lshl F dL_law_426 ?_
  refine x_aload_n F 2 dL_law_427 rfl rfl ?_
  refine x_iload F 1 dL_law_428 rfl ?_
  refine x_iconst F (v := nI (2)) dL_law_430 (by decide) ?_
  refine x_iadd F dL_law_431 ?_
  refine xW.toi (nI (i + 2)) (nI_add _ _) ?_
  refine x_sld F hX hbl hbA (show i + 2 < L by omega) (by omega) dL_law_432 ?_
  refine x_i2l F dL_law_433 ?_
  refine x_ldc2 F (x_m kjL_80) dL_law_434 ?_
  refine x_land F dL_law_437 ?_
  refine x_lor F dL_law_438 ?_
  refine x_aload_n F 2 dL_law_439 rfl rfl ?_
  refine x_iload F 1 dL_law_440 rfl ?_
  refine x_iconst F (v := nI (3)) dL_law_442 (by decide) ?_
  refine x_iadd F dL_law_443 ?_
  refine xW.toi (nI (i + 3)) (nI_add _ _) ?_
  refine x_sld F hX hbl hbA (show i + 3 < L by omega) (by omega) dL_law_444 ?_
  refine x_aload_n F 2 dL_law_445 rfl rfl ?_
  refine x_iload F 1 dL_law_446 rfl ?_
  refine x_iconst F (v := nI (4)) dL_law_448 (by decide) ?_
  refine x_iadd F dL_law_449 ?_
  refine xW.toi (nI (i + 4)) (nI_add _ _) ?_
  refine x_sld F hX hbl hbA (show i + 4 < L by omega) (by omega) dL_law_450 ?_
  refine x_i2l F dL_law_451 ?_
  refine x_bipush F (v := nI (32)) dL_law_452 (by decide) ?_
  refine x_lshl F dL_law_454 ?_
  refine x_aload_n F 2 dL_law_455 rfl rfl ?_
  refine x_iload F 1 dL_law_456 rfl ?_
  refine x_iconst F (v := nI (5)) dL_law_458 (by decide) ?_
  refine x_iadd F dL_law_459 ?_
  refine xW.toi (nI (i + 5)) (nI_add _ _) ?_
  refine x_sld F hX hbl hbA (show i + 5 < L by omega) (by omega) dL_law_460 ?_
  refine x_i2l F dL_law_461 ?_
  refine x_ldc2 F (x_m kjL_80) dL_law_462 ?_
  refine x_land F dL_law_465 ?_
  refine x_lor F dL_law_466 ?_
  refine yVr (n := 3) (As := [.long ((((xs (i + 1)).toInt64) <<< ((nI (32)).toInt64 &&& 63)) ||| (((xs (i + 2)).toInt64) &&& (4294967295))), .int (xs (i + 3)), .long ((((xs (i + 4)).toInt64) <<< ((nI (32)).toInt64 &&& 63)) ||| (((xs (i + 5)).toInt64) &&& (4294967295)))]) (ci := 6) F kmL_90 kiM_note ksM_note knM kcM_note (by decide +kernel) dL_law_467 (hnext n2) rfl ((hfr2 a (Or.inr hga) (by omega)).trans ha0) rfl rfl (Nat.le_of_ble_eq_true rfl) ⟨Nat.le_of_ble_eq_true rfl, Nat.le_of_ble_eq_true rfl⟩ ⟨by show cl + 1 + 0 ≤ 601024; omega, by show sl + 6 + 0 ≤ 7293034; omega⟩ (fun r3 n3 M3 hp => ?_)
  obtain ⟨hr3, hn3, hfr3, hRW3, hval⟩ := hp
  rw [hn3, hr3]
  show xW p l e room_1 s m #[Value.ref b] below meth c D xcl (fun q => s.heap.size ≤ q) 8 (lw_Z below #[Value.ref b] s) (cl + 1) (sl + 6) (n2) M3 470 [(5, .int (kk0)), (4, .int (nI (i))), (0, .ref (b)), (1, .ref (g)), (2, .ref (a)), (3, .ref (o))] [.int (b0)]
  refine x_istore F [(6, .int (b0)), (5, .int (kk0)), (4, .int (nI (i))), (0, .ref (b)), (1, .ref (g)), (2, .ref (a)), (3, .ref (o))] dL_law_470 (by decide) rfl ?_
  refine x_aload_n F 5 dL_law_472 rfl rfl ?_
  obtain ⟨fsb, hb0⟩ := RWk_a hRW3
  refine yVr (n := 0) (As := []) (ci := 6) F kmL_64 kiM_thrown ksM_thrown knM kcM_thrown (by decide +kernel) dL_law_473 (RWk_th hRW3) rfl hb0 rfl rfl (Nat.le_of_ble_eq_true rfl) ⟨Nat.le_of_ble_eq_true rfl, Nat.le_of_ble_eq_true rfl⟩ ⟨by show cl + 1 + 0 ≤ 601024; omega, by show sl + 6 + 0 ≤ 7293034; omega⟩ (fun r4 n4 M4 hp => ?_)
  obtain ⟨hr4, hn4, hM4⟩ := hp
  rw [hn4, hr4, hM4]
  show xW p l e room_1 s m #[Value.ref b] below meth c D xcl (fun q => s.heap.size ≤ q) 8 (lw_Z below #[Value.ref b] s) (cl + 1) (sl + 6) (n2) M3 476 [(6, .int (b0)), (5, .int (kk0)), (4, .int (nI (i))), (0, .ref (b)), (1, .ref (g)), (2, .ref (a)), (3, .ref (o))] [.int (kk0)]
  refine x_iload F 1 dL_law_476 rfl ?_
  refine x_icmp_eq F (tgt := 483) dL_law_478 (by decide) (fun c1 => ?_) (fun c1 => ?_)
  · skip
    refine x_iload F 1 dL_law_483 rfl ?_
    refine x_if_ne F (tgt := 500) dL_law_485 (by decide) (fun c2 => ?_) (fun c2 => ?_)
    · skip
      refine x_goto F (tgt := 1169) dL_law_500 (by decide) ?_
      refine xW.sub [2, 3, 4, 5, 6] rfl ?_
      exact kk _ _ _ _ _ (by omega) (by omega) ⟨_, hRW3⟩ ((hfr3 o (Or.inr hao)).trans ho2)
    · skip
      refine x_aload_n F 6 dL_law_488 rfl rfl ?_
      refine x_iconst F (v := nI (0)) dL_law_489 (by decide) ?_
      refine x_lald F dL_law_490 ((hfr3 o (Or.inr hao)).trans ho2) (pk_in (0) (1) (by omega)) ?_
      refine xW.tol ((f2) (0)) (by rw [nI_clamp (by omega)]) ?_
      refine x_iload F 0 dL_law_491 rfl ?_
      refine x_i2l F dL_law_493 ?_
      refine x_lcmp F dL_law_494 ?_
      refine x_if_eq F (tgt := 500) dL_law_495 (by decide) (fun c3 => ?_) (fun c3 => ?_)
      · skip
        have c3 : (f2) (0) = (b0).toInt64 := (lg_cmp_eq ((f2) (0)) ((b0).toInt64)).mp c3
        refine x_goto F (tgt := 1169) dL_law_500 (by decide) ?_
        refine xW.sub [2, 3, 4, 5, 6] rfl ?_
        exact kk _ _ _ _ _ (by omega) (by omega) ⟨_, hRW3⟩ ((hfr3 o (Or.inr hao)).trans ho2)
      · skip
        have c3 : ¬ (f2) (0) = (b0).toInt64 := fun z => c3 ((lg_cmp_eq ((f2) (0)) ((b0).toInt64)).mpr z)
        exact absurd (hval c2) c3
  · skip
    exact absurd rfl c1
set_option maxHeartbeats 4000000 in
set_option maxRecDepth 100000 in
theorem lwc_503 {l : Launch} (hfl : x_fl l) {p : Program} {e : Env} {s : State} {m : MethodId} {below : List Frame} {meth : Method} {c : Code} {D : va_G} {b L : Nat} {xs : Nat → Int32} {g a o : Nat} (F : xF p s m #[Value.ref b] meth c D xcl (fun q => s.heap.size ≤ q) code 8 "GoodsTreeLaw" (xw (Cond.initialized "GoodsTreeLaw"))) (hX : va_X b L xs s s.heap) (hbl : b < s.heap.size) (hL : L ≤ 3584) (hga : g + 45 < a) (hao : a + 18 < o) {i cl sl nx1 : Nat} {M1 : xH} {f1 : Nat → Int64} (hi : i + 7 ≤ L) (hcl : cl + 1 ≤ 601024) (hsl : sl + 6 ≤ 7293034) (hRW : ∃ k, RWk M1 g a k) (ho : M1 o = some (.inl (.long, 1, .inr (.inl f1)))) (kk : ∀ (nx2 : Nat) (M2 : xH) (f2 : Nat → Int64) (cl2 sl2 : Nat), cl2 ≤ cl + 1 → sl2 ≤ sl + 6 → (∃ k, RWk M2 g a k) → M2 o = some (.inl (.long, 1, .inr (.inl f2))) → xW p l e room_1 s m #[Value.ref b] below meth c D xcl (fun q => s.heap.size ≤ q) 8 (lw_Z below #[Value.ref b] s) (cl2) (sl2) (nx2) M2 1169 [(4, .int (nI (i))), (0, .ref (b)), (1, .ref (g)), (2, .ref (a)), (3, .ref (o))] []) : xW p l e room_1 s m #[Value.ref b] below meth c D xcl (fun q => s.heap.size ≤ q) 8 (lw_Z below #[Value.ref b] s) (cl) (sl) (nx1) M1 503 [(4, .int (nI (i))), (0, .ref (b)), (1, .ref (g)), (2, .ref (a)), (3, .ref (o))] [] := by
  have hbA : ¬ (s.heap.size ≤ b) := by omega
  refine x_aload_n F 2 dL_law_503 rfl rfl ?_
  refine x_aload_n F 1 dL_law_504 rfl rfl ?_
  refine x_iload F 0 dL_law_505 rfl ?_
  refine x_iconst F (v := nI (1)) dL_law_507 (by decide) ?_
  refine x_iadd F dL_law_508 ?_
  refine xW.toi (nI (i + 1)) (nI_add _ _) ?_
  refine x_sld F hX hbl hbA (show i + 1 < L by omega) (by omega) dL_law_509 ?_
  refine x_i2l F dL_law_510 ?_
  refine x_bipush F (v := nI (32)) dL_law_511 (by decide) ?_
  refine x_lshl F dL_law_513 ?_
  refine x_aload_n F 1 dL_law_514 rfl rfl ?_
  refine x_iload F 0 dL_law_515 rfl ?_
  refine x_iconst F (v := nI (2)) dL_law_517 (by decide) ?_
  refine x_iadd F dL_law_518 ?_
  refine xW.toi (nI (i + 2)) (nI_add _ _) ?_
  refine x_sld F hX hbl hbA (show i + 2 < L by omega) (by omega) dL_law_519 ?_
  refine x_i2l F dL_law_520 ?_
  refine x_ldc2 F (x_m kjL_80) dL_law_521 ?_
  refine x_land F dL_law_524 ?_
  refine x_lor F dL_law_525 ?_
  refine x_aload_n F 1 dL_law_526 rfl rfl ?_
  refine x_iload F 0 dL_law_527 rfl ?_
  refine x_iconst F (v := nI (3)) dL_law_529 (by decide) ?_
  refine x_iadd F dL_law_530 ?_
  refine xW.toi (nI (i + 3)) (nI_add _ _) ?_
  refine x_sld F hX hbl hbA (show i + 3 < L by omega) (by omega) dL_law_531 ?_
  refine x_aload_n F 4 dL_law_532 rfl rfl ?_
  obtain ⟨k0, hRW0⟩ := id hRW
  obtain ⟨fsa, ha0⟩ := RWk_a hRW0
  obtain ⟨kk0, b0, hcall⟩ := L_noted (l := l) hfl (nx := nx1) hga hao ho hRW ((((xs (i + 1)).toInt64) <<< ((nI (32)).toInt64 &&& 63)) ||| (((xs (i + 2)).toInt64) &&& (4294967295))) (xs (i + 3))
  refine ySH (n := 4) (As := [.ref (g), .long ((((xs (i + 1)).toInt64) <<< ((nI (32)).toInt64 &&& 63)) ||| (((xs (i + 2)).toInt64) &&& (4294967295))), .int (xs (i + 3)), .ref (o)]) F rfl kmL_91 ktL_noted knL kwL_noted (by decide +kernel) dL_law_533 hcall rfl rfl (Nat.le_of_ble_eq_true rfl) ⟨Nat.le_of_ble_eq_true rfl, Nat.le_of_ble_eq_true rfl⟩ ⟨by show cl + 1 ≤ 601024; omega, by show sl + 6 ≤ 7293034; omega⟩ (fun r2 n2 M2 hp => ?_)
  obtain ⟨hr2, -, f2, ho2, hfr2, hnext⟩ := hp
  rw [hr2]
  show xW p l e room_1 s m #[Value.ref b] below meth c D xcl (fun q => s.heap.size ≤ q) 8 (lw_Z below #[Value.ref b] s) (cl + 1) (sl + 6) (n2) M2 536 [(4, .int (nI (i))), (0, .ref (b)), (1, .ref (g)), (2, .ref (a)), (3, .ref (o))] [.int (kk0)]
  refine x_istore F [(5, .int (kk0)), (4, .int (nI (i))), (0, .ref (b)), (1, .ref (g)), (2, .ref (a)), (3, .ref (o))] dL_law_536 (by decide) rfl ?_
  refine x_aload_n F 4 dL_law_538 rfl rfl ?_
  refine x_aload_n F 2 dL_law_539 rfl rfl ?_
  refine x_iload F 1 dL_law_540 rfl ?_
  refine x_iconst F (v := nI (1)) dL_law_542 (by decide) ?_
  refine x_iadd F dL_law_543 ?_
  refine xW.toi (nI (i + 1)) (nI_add _ _) ?_
  refine x_sld F hX hbl hbA (show i + 1 < L by omega) (by omega) dL_law_544 ?_
  refine x_i2l F dL_law_545 ?_
  refine x_bipush F (v := nI (32)) dL_law_546 (by decide) ?_
  refine x_lshl F dL_law_548 ?_
  refine x_aload_n F 2 dL_law_549 rfl rfl ?_
  refine x_iload F 1 dL_law_550 rfl ?_
  refine x_iconst F (v := nI (2)) dL_law_552 (by decide) ?_
  refine x_iadd F dL_law_553 ?_
  refine xW.toi (nI (i + 2)) (nI_add _ _) ?_
  refine x_sld F hX hbl hbA (show i + 2 < L by omega) (by omega) dL_law_554 ?_
  refine x_i2l F dL_law_555 ?_
  refine x_ldc2 F (x_m kjL_80) dL_law_556 ?_
  refine x_land F dL_law_559 ?_
  refine x_lor F dL_law_560 ?_
  refine x_aload_n F 2 dL_law_561 rfl rfl ?_
  refine x_iload F 1 dL_law_562 rfl ?_
  refine x_iconst F (v := nI (3)) dL_law_564 (by decide) ?_
  refine x_iadd F dL_law_565 ?_
  refine xW.toi (nI (i + 3)) (nI_add _ _) ?_
  refine x_sld F hX hbl hbA (show i + 3 < L by omega) (by omega) dL_law_566 ?_
  refine yVr (n := 2) (As := [.long ((((xs (i + 1)).toInt64) <<< ((nI (32)).toInt64 &&& 63)) ||| (((xs (i + 2)).toInt64) &&& (4294967295))), .int (xs (i + 3))]) (ci := 6) F kmL_94 kiM_noted ksM_noted knM kcM_noted (by decide +kernel) dL_law_567 (hnext n2) rfl ((hfr2 a (Or.inr hga) (by omega)).trans ha0) rfl rfl (Nat.le_of_ble_eq_true rfl) ⟨Nat.le_of_ble_eq_true rfl, Nat.le_of_ble_eq_true rfl⟩ ⟨by show cl + 1 + 0 ≤ 601024; omega, by show sl + 6 + 0 ≤ 7293034; omega⟩ (fun r3 n3 M3 hp => ?_)
  obtain ⟨hr3, hn3, hfr3, hRW3, hval⟩ := hp
  rw [hn3, hr3]
  show xW p l e room_1 s m #[Value.ref b] below meth c D xcl (fun q => s.heap.size ≤ q) 8 (lw_Z below #[Value.ref b] s) (cl + 1) (sl + 6) (n2) M3 570 [(5, .int (kk0)), (4, .int (nI (i))), (0, .ref (b)), (1, .ref (g)), (2, .ref (a)), (3, .ref (o))] [.int (b0)]
  refine x_istore F [(6, .int (b0)), (5, .int (kk0)), (4, .int (nI (i))), (0, .ref (b)), (1, .ref (g)), (2, .ref (a)), (3, .ref (o))] dL_law_570 (by decide) rfl ?_
  refine x_aload_n F 5 dL_law_572 rfl rfl ?_
  obtain ⟨fsb, hb0⟩ := RWk_a hRW3
  refine yVr (n := 0) (As := []) (ci := 6) F kmL_64 kiM_thrown ksM_thrown knM kcM_thrown (by decide +kernel) dL_law_573 (RWk_th hRW3) rfl hb0 rfl rfl (Nat.le_of_ble_eq_true rfl) ⟨Nat.le_of_ble_eq_true rfl, Nat.le_of_ble_eq_true rfl⟩ ⟨by show cl + 1 + 0 ≤ 601024; omega, by show sl + 6 + 0 ≤ 7293034; omega⟩ (fun r4 n4 M4 hp => ?_)
  obtain ⟨hr4, hn4, hM4⟩ := hp
  rw [hn4, hr4, hM4]
  show xW p l e room_1 s m #[Value.ref b] below meth c D xcl (fun q => s.heap.size ≤ q) 8 (lw_Z below #[Value.ref b] s) (cl + 1) (sl + 6) (n2) M3 576 [(6, .int (b0)), (5, .int (kk0)), (4, .int (nI (i))), (0, .ref (b)), (1, .ref (g)), (2, .ref (a)), (3, .ref (o))] [.int (kk0)]
  refine x_iload F 1 dL_law_576 rfl ?_
  refine x_icmp_eq F (tgt := 583) dL_law_578 (by decide) (fun c1 => ?_) (fun c1 => ?_)
  · skip
    refine x_iload F 1 dL_law_583 rfl ?_
    refine x_if_ne F (tgt := 600) dL_law_585 (by decide) (fun c2 => ?_) (fun c2 => ?_)
    · skip
      refine x_goto F (tgt := 1169) dL_law_600 (by decide) ?_
      refine xW.sub [2, 3, 4, 5, 6] rfl ?_
      exact kk _ _ _ _ _ (by omega) (by omega) ⟨_, hRW3⟩ ((hfr3 o (Or.inr hao)).trans ho2)
    · skip
      refine x_aload_n F 6 dL_law_588 rfl rfl ?_
      refine x_iconst F (v := nI (0)) dL_law_589 (by decide) ?_
      refine x_lald F dL_law_590 ((hfr3 o (Or.inr hao)).trans ho2) (pk_in (0) (1) (by omega)) ?_
      refine xW.tol ((f2) (0)) (by rw [nI_clamp (by omega)]) ?_
      refine x_iload F 0 dL_law_591 rfl ?_
      refine x_i2l F dL_law_593 ?_
      refine x_lcmp F dL_law_594 ?_
      refine x_if_eq F (tgt := 600) dL_law_595 (by decide) (fun c3 => ?_) (fun c3 => ?_)
      · skip
        have c3 : (f2) (0) = (b0).toInt64 := (lg_cmp_eq ((f2) (0)) ((b0).toInt64)).mp c3
        refine x_goto F (tgt := 1169) dL_law_600 (by decide) ?_
        refine xW.sub [2, 3, 4, 5, 6] rfl ?_
        exact kk _ _ _ _ _ (by omega) (by omega) ⟨_, hRW3⟩ ((hfr3 o (Or.inr hao)).trans ho2)
      · skip
        have c3 : ¬ (f2) (0) = (b0).toInt64 := fun z => c3 ((lg_cmp_eq ((f2) (0)) ((b0).toInt64)).mpr z)
        exact absurd (hval c2) c3
  · skip
    exact absurd rfl c1
set_option maxHeartbeats 4000000 in
set_option maxRecDepth 100000 in
theorem lwc_603 {l : Launch} (hfl : x_fl l) {p : Program} {e : Env} {s : State} {m : MethodId} {below : List Frame} {meth : Method} {c : Code} {D : va_G} {b L : Nat} {xs : Nat → Int32} {g a o : Nat} (F : xF p s m #[Value.ref b] meth c D xcl (fun q => s.heap.size ≤ q) code 8 "GoodsTreeLaw" (xw (Cond.initialized "GoodsTreeLaw"))) (hX : va_X b L xs s s.heap) (hbl : b < s.heap.size) (hL : L ≤ 3584) (hga : g + 45 < a) (hao : a + 18 < o) {i cl sl nx1 : Nat} {M1 : xH} {f1 : Nat → Int64} (hi : i + 7 ≤ L) (hcl : cl + 1 ≤ 601024) (hsl : sl + 6 ≤ 7293034) (hRW : ∃ k, RWk M1 g a k) (ho : M1 o = some (.inl (.long, 1, .inr (.inl f1)))) (kk : ∀ (nx2 : Nat) (M2 : xH) (f2 : Nat → Int64) (cl2 sl2 : Nat), cl2 ≤ cl + 1 → sl2 ≤ sl + 6 → (∃ k, RWk M2 g a k) → M2 o = some (.inl (.long, 1, .inr (.inl f2))) → xW p l e room_1 s m #[Value.ref b] below meth c D xcl (fun q => s.heap.size ≤ q) 8 (lw_Z below #[Value.ref b] s) (cl2) (sl2) (nx2) M2 1169 [(4, .int (nI (i))), (0, .ref (b)), (1, .ref (g)), (2, .ref (a)), (3, .ref (o))] []) : xW p l e room_1 s m #[Value.ref b] below meth c D xcl (fun q => s.heap.size ≤ q) 8 (lw_Z below #[Value.ref b] s) (cl) (sl) (nx1) M1 603 [(4, .int (nI (i))), (0, .ref (b)), (1, .ref (g)), (2, .ref (a)), (3, .ref (o))] [] := by
  have hbA : ¬ (s.heap.size ≤ b) := by omega
  refine x_aload_n F 2 dL_law_603 rfl rfl ?_
  refine x_aload_n F 1 dL_law_604 rfl rfl ?_
  refine x_iload F 0 dL_law_605 rfl ?_
  refine x_iconst F (v := nI (1)) dL_law_607 (by decide) ?_
  refine x_iadd F dL_law_608 ?_
  refine xW.toi (nI (i + 1)) (nI_add _ _) ?_
  refine x_sld F hX hbl hbA (show i + 1 < L by omega) (by omega) dL_law_609 ?_
  refine x_aload_n F 1 dL_law_610 rfl rfl ?_
  refine x_iload F 0 dL_law_611 rfl ?_
  refine x_iconst F (v := nI (2)) dL_law_613 (by decide) ?_
  refine x_iadd F dL_law_614 ?_
  refine xW.toi (nI (i + 2)) (nI_add _ _) ?_
  refine x_sld F hX hbl hbA (show i + 2 < L by omega) (by omega) dL_law_615 ?_
  refine x_i2l F dL_law_616 ?_
  refine x_bipush F (v := nI (32)) dL_law_617 (by decide) ?_
  refine x_lshl F dL_law_619 ?_
  refine x_aload_n F 1 dL_law_620 rfl rfl ?_
  refine x_iload F 0 dL_law_621 rfl ?_
  refine x_iconst F (v := nI (3)) dL_law_623 (by decide) ?_
  refine x_iadd F dL_law_624 ?_
  refine xW.toi (nI (i + 3)) (nI_add _ _) ?_
  refine x_sld F hX hbl hbA (show i + 3 < L by omega) (by omega) dL_law_625 ?_
  refine x_i2l F dL_law_626 ?_
  refine x_ldc2 F (x_m kjL_80) dL_law_627 ?_
  refine x_land F dL_law_630 ?_
  refine x_lor F dL_law_631 ?_
  refine x_aload_n F 1 dL_law_632 rfl rfl ?_
  refine x_iload F 0 dL_law_633 rfl ?_
  refine x_iconst F (v := nI (4)) dL_law_635 (by decide) ?_
  refine x_iadd F dL_law_636 ?_
  refine xW.toi (nI (i + 4)) (nI_add _ _) ?_
  refine x_sld F hX hbl hbA (show i + 4 < L by omega) (by omega) dL_law_637 ?_
  refine x_aload_n F 1 dL_law_638 rfl rfl ?_
  refine x_iload F 0 dL_law_639 rfl ?_
  refine x_iconst F (v := nI (5)) dL_law_641 (by decide) ?_
  refine x_iadd F dL_law_642 ?_
  refine xW.toi (nI (i + 5)) (nI_add _ _) ?_
  refine x_sld F hX hbl hbA (show i + 5 < L by omega) (by omega) dL_law_643 ?_
  refine x_i2l F dL_law_644 ?_
  refine x_bipush F (v := nI (32)) dL_law_645 (by decide) ?_
  refine x_lshl F dL_law_647 ?_
  refine x_aload_n F 1 dL_law_648 rfl rfl ?_
  refine x_iload F 0 dL_law_649 rfl ?_
  refine x_bipush F (v := nI (6)) dL_law_651 (by decide) ?_
  refine x_iadd F dL_law_653 ?_
  refine xW.toi (nI (i + 6)) (nI_add _ _) ?_
  refine x_sld F hX hbl hbA (show i + 6 < L by omega) (by omega) dL_law_654 ?_
  refine x_i2l F dL_law_655 ?_
  refine x_ldc2 F (x_m kjL_80) dL_law_656 ?_
  refine x_land F dL_law_659 ?_
  refine x_lor F dL_law_660 ?_
  obtain ⟨k0, hRW0⟩ := id hRW
  obtain ⟨fsg, hg0⟩ := RWk_g hRW0
  obtain ⟨fsa, ha0⟩ := RWk_a hRW0
  obtain ⟨v0, hcall⟩ := L_link (l := l) (nx := nx1) hga hRW (xs (i + 1)) ((((xs (i + 2)).toInt64) <<< ((nI (32)).toInt64 &&& 63)) ||| (((xs (i + 3)).toInt64) &&& (4294967295))) (xs (i + 4)) ((((xs (i + 5)).toInt64) <<< ((nI (32)).toInt64 &&& 63)) ||| (((xs (i + 6)).toInt64) &&& (4294967295)))
  refine yVr (n := 4) (As := [.int (xs (i + 1)), .long ((((xs (i + 2)).toInt64) <<< ((nI (32)).toInt64 &&& 63)) ||| (((xs (i + 3)).toInt64) &&& (4294967295))), .int (xs (i + 4)), .long ((((xs (i + 5)).toInt64) <<< ((nI (32)).toInt64 &&& 63)) ||| (((xs (i + 6)).toInt64) &&& (4294967295)))]) (ci := 5) F kmL_95 kiG_link ksG_link knG kcG_link (by decide +kernel) dL_law_661 hcall rfl hg0 rfl rfl (Nat.le_of_ble_eq_true rfl) ⟨Nat.le_of_ble_eq_true rfl, Nat.le_of_ble_eq_true rfl⟩ ⟨by show cl + 0 ≤ 601024; omega, by show sl + 0 ≤ 7293034; omega⟩ (fun r2 n2 M2 hp => ?_)
  obtain ⟨hr2, hn2, hfr2, hnext⟩ := hp
  rw [hn2, hr2]
  show xW p l e room_1 s m #[Value.ref b] below meth c D xcl (fun q => s.heap.size ≤ q) 8 (lw_Z below #[Value.ref b] s) (cl) (sl) (nx1) M2 664 [(4, .int (nI (i))), (0, .ref (b)), (1, .ref (g)), (2, .ref (a)), (3, .ref (o))] [.int (v0)]
  refine x_aload_n F 3 dL_law_664 rfl rfl ?_
  refine x_aload_n F 1 dL_law_665 rfl rfl ?_
  refine x_iload F 0 dL_law_666 rfl ?_
  refine x_iconst F (v := nI (1)) dL_law_668 (by decide) ?_
  refine x_iadd F dL_law_669 ?_
  refine xW.toi (nI (i + 1)) (nI_add _ _) ?_
  refine x_sld F hX hbl hbA (show i + 1 < L by omega) (by omega) dL_law_670 ?_
  refine x_aload_n F 1 dL_law_671 rfl rfl ?_
  refine x_iload F 0 dL_law_672 rfl ?_
  refine x_iconst F (v := nI (2)) dL_law_674 (by decide) ?_
  refine x_iadd F dL_law_675 ?_
  refine xW.toi (nI (i + 2)) (nI_add _ _) ?_
  refine x_sld F hX hbl hbA (show i + 2 < L by omega) (by omega) dL_law_676 ?_
  refine x_i2l F dL_law_677 ?_
  refine x_bipush F (v := nI (32)) dL_law_678 (by decide) ?_
  refine x_lshl F dL_law_680 ?_
  refine x_aload_n F 1 dL_law_681 rfl rfl ?_
  refine x_iload F 0 dL_law_682 rfl ?_
  refine x_iconst F (v := nI (3)) dL_law_684 (by decide) ?_
  refine x_iadd F dL_law_685 ?_
  refine xW.toi (nI (i + 3)) (nI_add _ _) ?_
  refine x_sld F hX hbl hbA (show i + 3 < L by omega) (by omega) dL_law_686 ?_
  refine x_i2l F dL_law_687 ?_
  refine x_ldc2 F (x_m kjL_80) dL_law_688 ?_
  refine x_land F dL_law_691 ?_
  refine x_lor F dL_law_692 ?_
  refine x_aload_n F 1 dL_law_693 rfl rfl ?_
  refine x_iload F 0 dL_law_694 rfl ?_
  refine x_iconst F (v := nI (4)) dL_law_696 (by decide) ?_
  refine x_iadd F dL_law_697 ?_
  refine xW.toi (nI (i + 4)) (nI_add _ _) ?_
  refine x_sld F hX hbl hbA (show i + 4 < L by omega) (by omega) dL_law_698 ?_
  refine x_aload_n F 1 dL_law_699 rfl rfl ?_
  refine x_iload F 0 dL_law_700 rfl ?_
  refine x_iconst F (v := nI (5)) dL_law_702 (by decide) ?_
  refine x_iadd F dL_law_703 ?_
  refine xW.toi (nI (i + 5)) (nI_add _ _) ?_
  refine x_sld F hX hbl hbA (show i + 5 < L by omega) (by omega) dL_law_704 ?_
  refine x_i2l F dL_law_705 ?_
  refine x_bipush F (v := nI (32)) dL_law_706 (by decide) ?_
  refine x_lshl F dL_law_708 ?_
  refine x_aload_n F 1 dL_law_709 rfl rfl ?_
  refine x_iload F 0 dL_law_710 rfl ?_
  refine x_bipush F (v := nI (6)) dL_law_712 (by decide) ?_
  refine x_iadd F dL_law_714 ?_
  refine xW.toi (nI (i + 6)) (nI_add _ _) ?_
  refine x_sld F hX hbl hbA (show i + 6 < L by omega) (by omega) dL_law_715 ?_
  refine x_i2l F dL_law_716 ?_
  refine x_ldc2 F (x_m kjL_80) dL_law_717 ?_
  refine x_land F dL_law_720 ?_
  refine x_lor F dL_law_721 ?_
  refine yVr (n := 4) (As := [.int (xs (i + 1)), .long ((((xs (i + 2)).toInt64) <<< ((nI (32)).toInt64 &&& 63)) ||| (((xs (i + 3)).toInt64) &&& (4294967295))), .int (xs (i + 4)), .long ((((xs (i + 5)).toInt64) <<< ((nI (32)).toInt64 &&& 63)) ||| (((xs (i + 6)).toInt64) &&& (4294967295)))]) (ci := 6) F kmL_99 kiM_link ksM_link knM kcM_link (by decide +kernel) dL_law_722 (hnext (nx1)) rfl ((hfr2 a (Or.inr hga)).trans ha0) rfl rfl (Nat.le_of_ble_eq_true rfl) ⟨Nat.le_of_ble_eq_true rfl, Nat.le_of_ble_eq_true rfl⟩ ⟨by show cl + 0 ≤ 601024; omega, by show sl + 0 ≤ 7293034; omega⟩ (fun r3 n3 M3 hp => ?_)
  obtain ⟨hr3, hn3, hfr3, hRW3⟩ := hp
  rw [hn3, hr3]
  show xW p l e room_1 s m #[Value.ref b] below meth c D xcl (fun q => s.heap.size ≤ q) 8 (lw_Z below #[Value.ref b] s) (cl) (sl) (nx1) M3 725 [(4, .int (nI (i))), (0, .ref (b)), (1, .ref (g)), (2, .ref (a)), (3, .ref (o))] [.int (v0), .int (v0)]
  refine x_icmp_eq F (tgt := 1169) dL_law_725 (by decide) (fun c1 => ?_) (fun c1 => ?_)
  · skip
    exact kk _ _ _ _ _ (by omega) (by omega) hRW3 ((hfr3 o (Or.inr hao)).trans ((hfr2 o (Or.inr (by omega))).trans ho))
  · skip
    exact absurd rfl c1
set_option maxHeartbeats 4000000 in
set_option maxRecDepth 100000 in
theorem lwc_730 {l : Launch} (hfl : x_fl l) {p : Program} {e : Env} {s : State} {m : MethodId} {below : List Frame} {meth : Method} {c : Code} {D : va_G} {b L : Nat} {xs : Nat → Int32} {g a o : Nat} (F : xF p s m #[Value.ref b] meth c D xcl (fun q => s.heap.size ≤ q) code 8 "GoodsTreeLaw" (xw (Cond.initialized "GoodsTreeLaw"))) (hX : va_X b L xs s s.heap) (hbl : b < s.heap.size) (hL : L ≤ 3584) (hga : g + 45 < a) (hao : a + 18 < o) {i cl sl nx1 : Nat} {M1 : xH} {f1 : Nat → Int64} (hi : i + 7 ≤ L) (hcl : cl + 1 ≤ 601024) (hsl : sl + 6 ≤ 7293034) (hRW : ∃ k, RWk M1 g a k) (ho : M1 o = some (.inl (.long, 1, .inr (.inl f1)))) (kk : ∀ (nx2 : Nat) (M2 : xH) (f2 : Nat → Int64) (cl2 sl2 : Nat), cl2 ≤ cl + 1 → sl2 ≤ sl + 6 → (∃ k, RWk M2 g a k) → M2 o = some (.inl (.long, 1, .inr (.inl f2))) → xW p l e room_1 s m #[Value.ref b] below meth c D xcl (fun q => s.heap.size ≤ q) 8 (lw_Z below #[Value.ref b] s) (cl2) (sl2) (nx2) M2 1169 [(4, .int (nI (i))), (0, .ref (b)), (1, .ref (g)), (2, .ref (a)), (3, .ref (o))] []) : xW p l e room_1 s m #[Value.ref b] below meth c D xcl (fun q => s.heap.size ≤ q) 8 (lw_Z below #[Value.ref b] s) (cl) (sl) (nx1) M1 730 [(4, .int (nI (i))), (0, .ref (b)), (1, .ref (g)), (2, .ref (a)), (3, .ref (o))] [] := by
  have hbA : ¬ (s.heap.size ≤ b) := by omega
  refine x_aload_n F 2 dL_law_730 rfl rfl ?_
  refine x_aload_n F 1 dL_law_731 rfl rfl ?_
  refine x_iload F 0 dL_law_732 rfl ?_
  refine x_iconst F (v := nI (1)) dL_law_734 (by decide) ?_
  refine x_iadd F dL_law_735 ?_
  refine xW.toi (nI (i + 1)) (nI_add _ _) ?_
  refine x_sld F hX hbl hbA (show i + 1 < L by omega) (by omega) dL_law_736 ?_
  refine x_aload_n F 1 dL_law_737 rfl rfl ?_
  refine x_iload F 0 dL_law_738 rfl ?_
  refine x_iconst F (v := nI (2)) dL_law_740 (by decide) ?_
  refine x_iadd F dL_law_741 ?_
  refine xW.toi (nI (i + 2)) (nI_add _ _) ?_
  refine x_sld F hX hbl hbA (show i + 2 < L by omega) (by omega) dL_law_742 ?_
  refine x_i2l F dL_law_743 ?_
  refine x_bipush F (v := nI (32)) dL_law_744 (by decide) ?_
  refine x_lshl F dL_law_746 ?_
  refine x_aload_n F 1 dL_law_747 rfl rfl ?_
  refine x_iload F 0 dL_law_748 rfl ?_
  refine x_iconst F (v := nI (3)) dL_law_750 (by decide) ?_
  refine x_iadd F dL_law_751 ?_
  refine xW.toi (nI (i + 3)) (nI_add _ _) ?_
  refine x_sld F hX hbl hbA (show i + 3 < L by omega) (by omega) dL_law_752 ?_
  refine x_i2l F dL_law_753 ?_
  refine x_ldc2 F (x_m kjL_80) dL_law_754 ?_
  refine x_land F dL_law_757 ?_
  refine x_lor F dL_law_758 ?_
  refine x_aload_n F 1 dL_law_759 rfl rfl ?_
  refine x_iload F 0 dL_law_760 rfl ?_
  refine x_iconst F (v := nI (4)) dL_law_762 (by decide) ?_
  refine x_iadd F dL_law_763 ?_
  refine xW.toi (nI (i + 4)) (nI_add _ _) ?_
  refine x_sld F hX hbl hbA (show i + 4 < L by omega) (by omega) dL_law_764 ?_
  refine x_aload_n F 4 dL_law_765 rfl rfl ?_
  obtain ⟨k0, hRW0⟩ := id hRW
  obtain ⟨fsa, ha0⟩ := RWk_a hRW0
  obtain ⟨kk0, b0, hcall⟩ := L_became (l := l) hfl (nx := nx1) hga hao ho hRW (xs (i + 1)) ((((xs (i + 2)).toInt64) <<< ((nI (32)).toInt64 &&& 63)) ||| (((xs (i + 3)).toInt64) &&& (4294967295))) (xs (i + 4))
  refine ySH (n := 5) (As := [.ref (g), .int (xs (i + 1)), .long ((((xs (i + 2)).toInt64) <<< ((nI (32)).toInt64 &&& 63)) ||| (((xs (i + 3)).toInt64) &&& (4294967295))), .int (xs (i + 4)), .ref (o)]) F rfl kmL_100 ktL_became knL kwL_became (by decide +kernel) dL_law_766 hcall rfl rfl (Nat.le_of_ble_eq_true rfl) ⟨Nat.le_of_ble_eq_true rfl, Nat.le_of_ble_eq_true rfl⟩ ⟨by show cl + 1 ≤ 601024; omega, by show sl + 6 ≤ 7293034; omega⟩ (fun r2 n2 M2 hp => ?_)
  obtain ⟨hr2, -, f2, ho2, hfr2, hnext⟩ := hp
  rw [hr2]
  show xW p l e room_1 s m #[Value.ref b] below meth c D xcl (fun q => s.heap.size ≤ q) 8 (lw_Z below #[Value.ref b] s) (cl + 1) (sl + 6) (n2) M2 769 [(4, .int (nI (i))), (0, .ref (b)), (1, .ref (g)), (2, .ref (a)), (3, .ref (o))] [.int (kk0)]
  refine x_istore F [(5, .int (kk0)), (4, .int (nI (i))), (0, .ref (b)), (1, .ref (g)), (2, .ref (a)), (3, .ref (o))] dL_law_769 (by decide) rfl ?_
  refine x_aload_n F 4 dL_law_771 rfl rfl ?_
  refine x_aload_n F 2 dL_law_772 rfl rfl ?_
  refine x_iload F 1 dL_law_773 rfl ?_
  refine x_iconst F (v := nI (1)) dL_law_775 (by decide) ?_
  refine x_iadd F dL_law_776 ?_
  refine xW.toi (nI (i + 1)) (nI_add _ _) ?_
  refine x_sld F hX hbl hbA (show i + 1 < L by omega) (by omega) dL_law_777 ?_
  refine x_aload_n F 2 dL_law_778 rfl rfl ?_
  refine x_iload F 1 dL_law_779 rfl ?_
  refine x_iconst F (v := nI (2)) dL_law_781 (by decide) ?_
  refine x_iadd F dL_law_782 ?_
  refine xW.toi (nI (i + 2)) (nI_add _ _) ?_
  refine x_sld F hX hbl hbA (show i + 2 < L by omega) (by omega) dL_law_783 ?_
  refine x_i2l F dL_law_784 ?_
  refine x_bipush F (v := nI (32)) dL_law_785 (by decide) ?_
  refine x_lshl F dL_law_787 ?_
  refine x_aload_n F 2 dL_law_788 rfl rfl ?_
  refine x_iload F 1 dL_law_789 rfl ?_
  refine x_iconst F (v := nI (3)) dL_law_791 (by decide) ?_
  refine x_iadd F dL_law_792 ?_
  refine xW.toi (nI (i + 3)) (nI_add _ _) ?_
  refine x_sld F hX hbl hbA (show i + 3 < L by omega) (by omega) dL_law_793 ?_
  refine x_i2l F dL_law_794 ?_
  refine x_ldc2 F (x_m kjL_80) dL_law_795 ?_
  refine x_land F dL_law_798 ?_
  refine x_lor F dL_law_799 ?_
  refine x_aload_n F 2 dL_law_800 rfl rfl ?_
  refine x_iload F 1 dL_law_801 rfl ?_
  refine x_iconst F (v := nI (4)) dL_law_803 (by decide) ?_
  refine x_iadd F dL_law_804 ?_
  refine xW.toi (nI (i + 4)) (nI_add _ _) ?_
  refine x_sld F hX hbl hbA (show i + 4 < L by omega) (by omega) dL_law_805 ?_
  refine yVr (n := 3) (As := [.int (xs (i + 1)), .long ((((xs (i + 2)).toInt64) <<< ((nI (32)).toInt64 &&& 63)) ||| (((xs (i + 3)).toInt64) &&& (4294967295))), .int (xs (i + 4))]) (ci := 6) F kmL_103 kiM_became ksM_became knM kcM_became (by decide +kernel) dL_law_806 (hnext n2) rfl ((hfr2 a (Or.inr hga) (by omega)).trans ha0) rfl rfl (Nat.le_of_ble_eq_true rfl) ⟨Nat.le_of_ble_eq_true rfl, Nat.le_of_ble_eq_true rfl⟩ ⟨by show cl + 1 + 0 ≤ 601024; omega, by show sl + 6 + 0 ≤ 7293034; omega⟩ (fun r3 n3 M3 hp => ?_)
  obtain ⟨hr3, hn3, hfr3, hRW3, hval⟩ := hp
  rw [hn3, hr3]
  show xW p l e room_1 s m #[Value.ref b] below meth c D xcl (fun q => s.heap.size ≤ q) 8 (lw_Z below #[Value.ref b] s) (cl + 1) (sl + 6) (n2) M3 809 [(5, .int (kk0)), (4, .int (nI (i))), (0, .ref (b)), (1, .ref (g)), (2, .ref (a)), (3, .ref (o))] [.int (b0)]
  refine x_istore F [(6, .int (b0)), (5, .int (kk0)), (4, .int (nI (i))), (0, .ref (b)), (1, .ref (g)), (2, .ref (a)), (3, .ref (o))] dL_law_809 (by decide) rfl ?_
  refine x_aload_n F 5 dL_law_811 rfl rfl ?_
  obtain ⟨fsb, hb0⟩ := RWk_a hRW3
  refine yVr (n := 0) (As := []) (ci := 6) F kmL_64 kiM_thrown ksM_thrown knM kcM_thrown (by decide +kernel) dL_law_812 (RWk_th hRW3) rfl hb0 rfl rfl (Nat.le_of_ble_eq_true rfl) ⟨Nat.le_of_ble_eq_true rfl, Nat.le_of_ble_eq_true rfl⟩ ⟨by show cl + 1 + 0 ≤ 601024; omega, by show sl + 6 + 0 ≤ 7293034; omega⟩ (fun r4 n4 M4 hp => ?_)
  obtain ⟨hr4, hn4, hM4⟩ := hp
  rw [hn4, hr4, hM4]
  show xW p l e room_1 s m #[Value.ref b] below meth c D xcl (fun q => s.heap.size ≤ q) 8 (lw_Z below #[Value.ref b] s) (cl + 1) (sl + 6) (n2) M3 815 [(6, .int (b0)), (5, .int (kk0)), (4, .int (nI (i))), (0, .ref (b)), (1, .ref (g)), (2, .ref (a)), (3, .ref (o))] [.int (kk0)]
  refine x_iload F 1 dL_law_815 rfl ?_
  refine x_icmp_eq F (tgt := 822) dL_law_817 (by decide) (fun c1 => ?_) (fun c1 => ?_)
  · skip
    refine x_iload F 1 dL_law_822 rfl ?_
    refine x_if_ne F (tgt := 839) dL_law_824 (by decide) (fun c2 => ?_) (fun c2 => ?_)
    · skip
      refine x_goto F (tgt := 1169) dL_law_839 (by decide) ?_
      refine xW.sub [2, 3, 4, 5, 6] rfl ?_
      exact kk _ _ _ _ _ (by omega) (by omega) ⟨_, hRW3⟩ ((hfr3 o (Or.inr hao)).trans ho2)
    · skip
      refine x_aload_n F 6 dL_law_827 rfl rfl ?_
      refine x_iconst F (v := nI (0)) dL_law_828 (by decide) ?_
      refine x_lald F dL_law_829 ((hfr3 o (Or.inr hao)).trans ho2) (pk_in (0) (1) (by omega)) ?_
      refine xW.tol ((f2) (0)) (by rw [nI_clamp (by omega)]) ?_
      refine x_iload F 0 dL_law_830 rfl ?_
      refine x_i2l F dL_law_832 ?_
      refine x_lcmp F dL_law_833 ?_
      refine x_if_eq F (tgt := 839) dL_law_834 (by decide) (fun c3 => ?_) (fun c3 => ?_)
      · skip
        have c3 : (f2) (0) = (b0).toInt64 := (lg_cmp_eq ((f2) (0)) ((b0).toInt64)).mp c3
        refine x_goto F (tgt := 1169) dL_law_839 (by decide) ?_
        refine xW.sub [2, 3, 4, 5, 6] rfl ?_
        exact kk _ _ _ _ _ (by omega) (by omega) ⟨_, hRW3⟩ ((hfr3 o (Or.inr hao)).trans ho2)
      · skip
        have c3 : ¬ (f2) (0) = (b0).toInt64 := fun z => c3 ((lg_cmp_eq ((f2) (0)) ((b0).toInt64)).mpr z)
        exact absurd (hval c2) c3
  · skip
    exact absurd rfl c1
set_option maxHeartbeats 4000000 in
set_option maxRecDepth 100000 in
theorem lwc_842 {l : Launch} (hfl : x_fl l) {p : Program} {e : Env} {s : State} {m : MethodId} {below : List Frame} {meth : Method} {c : Code} {D : va_G} {b L : Nat} {xs : Nat → Int32} {g a o : Nat} (F : xF p s m #[Value.ref b] meth c D xcl (fun q => s.heap.size ≤ q) code 8 "GoodsTreeLaw" (xw (Cond.initialized "GoodsTreeLaw"))) (hX : va_X b L xs s s.heap) (hbl : b < s.heap.size) (hL : L ≤ 3584) (hga : g + 45 < a) (hao : a + 18 < o) {i cl sl nx1 : Nat} {M1 : xH} {f1 : Nat → Int64} (hi : i + 7 ≤ L) (hcl : cl + 1 ≤ 601024) (hsl : sl + 6 ≤ 7293034) (hRW : ∃ k, RWk M1 g a k) (ho : M1 o = some (.inl (.long, 1, .inr (.inl f1)))) (kk : ∀ (nx2 : Nat) (M2 : xH) (f2 : Nat → Int64) (cl2 sl2 : Nat), cl2 ≤ cl + 1 → sl2 ≤ sl + 6 → (∃ k, RWk M2 g a k) → M2 o = some (.inl (.long, 1, .inr (.inl f2))) → xW p l e room_1 s m #[Value.ref b] below meth c D xcl (fun q => s.heap.size ≤ q) 8 (lw_Z below #[Value.ref b] s) (cl2) (sl2) (nx2) M2 1169 [(4, .int (nI (i))), (0, .ref (b)), (1, .ref (g)), (2, .ref (a)), (3, .ref (o))] []) : xW p l e room_1 s m #[Value.ref b] below meth c D xcl (fun q => s.heap.size ≤ q) 8 (lw_Z below #[Value.ref b] s) (cl) (sl) (nx1) M1 842 [(4, .int (nI (i))), (0, .ref (b)), (1, .ref (g)), (2, .ref (a)), (3, .ref (o))] [] := by
  have hbA : ¬ (s.heap.size ≤ b) := by omega
  refine x_aload_n F 2 dL_law_842 rfl rfl ?_
  refine x_aload_n F 1 dL_law_843 rfl rfl ?_
  refine x_iload F 0 dL_law_844 rfl ?_
  refine x_iconst F (v := nI (1)) dL_law_846 (by decide) ?_
  refine x_iadd F dL_law_847 ?_
  refine xW.toi (nI (i + 1)) (nI_add _ _) ?_
  refine x_sld F hX hbl hbA (show i + 1 < L by omega) (by omega) dL_law_848 ?_
  refine x_aload_n F 1 dL_law_849 rfl rfl ?_
  refine x_iload F 0 dL_law_850 rfl ?_
  refine x_iconst F (v := nI (2)) dL_law_852 (by decide) ?_
  refine x_iadd F dL_law_853 ?_
  refine xW.toi (nI (i + 2)) (nI_add _ _) ?_
  refine x_sld F hX hbl hbA (show i + 2 < L by omega) (by omega) dL_law_854 ?_
  refine x_i2l F dL_law_855 ?_
  refine x_bipush F (v := nI (32)) dL_law_856 (by decide) ?_
  refine x_lshl F dL_law_858 ?_
  refine x_aload_n F 1 dL_law_859 rfl rfl ?_
  refine x_iload F 0 dL_law_860 rfl ?_
  refine x_iconst F (v := nI (3)) dL_law_862 (by decide) ?_
  refine x_iadd F dL_law_863 ?_
  refine xW.toi (nI (i + 3)) (nI_add _ _) ?_
  refine x_sld F hX hbl hbA (show i + 3 < L by omega) (by omega) dL_law_864 ?_
  refine x_i2l F dL_law_865 ?_
  refine x_ldc2 F (x_m kjL_80) dL_law_866 ?_
  refine x_land F dL_law_869 ?_
  refine x_lor F dL_law_870 ?_
  refine x_aload_n F 1 dL_law_871 rfl rfl ?_
  refine x_iload F 0 dL_law_872 rfl ?_
  refine x_iconst F (v := nI (4)) dL_law_874 (by decide) ?_
  refine x_iadd F dL_law_875 ?_
  refine xW.toi (nI (i + 4)) (nI_add _ _) ?_
  refine x_sld F hX hbl hbA (show i + 4 < L by omega) (by omega) dL_law_876 ?_
  refine x_aload_n F 1 dL_law_877 rfl rfl ?_
  refine x_iload F 0 dL_law_878 rfl ?_
  refine x_iconst F (v := nI (5)) dL_law_880 (by decide) ?_
  refine x_iadd F dL_law_881 ?_
  refine xW.toi (nI (i + 5)) (nI_add _ _) ?_
  refine x_sld F hX hbl hbA (show i + 5 < L by omega) (by omega) dL_law_882 ?_
  refine x_aload_n F 4 dL_law_883 rfl rfl ?_
  obtain ⟨k0, hRW0⟩ := id hRW
  obtain ⟨fsa, ha0⟩ := RWk_a hRW0
  obtain ⟨kk0, b0, hcall⟩ := L_linked (l := l) hfl (nx := nx1) hga hao ho hRW (xs (i + 1)) ((((xs (i + 2)).toInt64) <<< ((nI (32)).toInt64 &&& 63)) ||| (((xs (i + 3)).toInt64) &&& (4294967295))) (xs (i + 4)) (xs (i + 5))
  refine ySH (n := 6) (As := [.ref (g), .int (xs (i + 1)), .long ((((xs (i + 2)).toInt64) <<< ((nI (32)).toInt64 &&& 63)) ||| (((xs (i + 3)).toInt64) &&& (4294967295))), .int (xs (i + 4)), .int (xs (i + 5)), .ref (o)]) F rfl kmL_104 ktL_linked knL kwL_linked (by decide +kernel) dL_law_884 hcall rfl rfl (Nat.le_of_ble_eq_true rfl) ⟨Nat.le_of_ble_eq_true rfl, Nat.le_of_ble_eq_true rfl⟩ ⟨by show cl + 1 ≤ 601024; omega, by show sl + 6 ≤ 7293034; omega⟩ (fun r2 n2 M2 hp => ?_)
  obtain ⟨hr2, -, f2, ho2, hfr2, hnext⟩ := hp
  rw [hr2]
  show xW p l e room_1 s m #[Value.ref b] below meth c D xcl (fun q => s.heap.size ≤ q) 8 (lw_Z below #[Value.ref b] s) (cl + 1) (sl + 6) (n2) M2 887 [(4, .int (nI (i))), (0, .ref (b)), (1, .ref (g)), (2, .ref (a)), (3, .ref (o))] [.int (kk0)]
  refine x_istore F [(5, .int (kk0)), (4, .int (nI (i))), (0, .ref (b)), (1, .ref (g)), (2, .ref (a)), (3, .ref (o))] dL_law_887 (by decide) rfl ?_
  refine x_aload_n F 4 dL_law_889 rfl rfl ?_
  refine x_aload_n F 2 dL_law_890 rfl rfl ?_
  refine x_iload F 1 dL_law_891 rfl ?_
  refine x_iconst F (v := nI (1)) dL_law_893 (by decide) ?_
  refine x_iadd F dL_law_894 ?_
  refine xW.toi (nI (i + 1)) (nI_add _ _) ?_
  refine x_sld F hX hbl hbA (show i + 1 < L by omega) (by omega) dL_law_895 ?_
  refine x_aload_n F 2 dL_law_896 rfl rfl ?_
  refine x_iload F 1 dL_law_897 rfl ?_
  refine x_iconst F (v := nI (2)) dL_law_899 (by decide) ?_
  refine x_iadd F dL_law_900 ?_
  refine xW.toi (nI (i + 2)) (nI_add _ _) ?_
  refine x_sld F hX hbl hbA (show i + 2 < L by omega) (by omega) dL_law_901 ?_
  refine x_i2l F dL_law_902 ?_
  refine x_bipush F (v := nI (32)) dL_law_903 (by decide) ?_
  refine x_lshl F dL_law_905 ?_
  refine x_aload_n F 2 dL_law_906 rfl rfl ?_
  refine x_iload F 1 dL_law_907 rfl ?_
  refine x_iconst F (v := nI (3)) dL_law_909 (by decide) ?_
  refine x_iadd F dL_law_910 ?_
  refine xW.toi (nI (i + 3)) (nI_add _ _) ?_
  refine x_sld F hX hbl hbA (show i + 3 < L by omega) (by omega) dL_law_911 ?_
  refine x_i2l F dL_law_912 ?_
  refine x_ldc2 F (x_m kjL_80) dL_law_913 ?_
  refine x_land F dL_law_916 ?_
  refine x_lor F dL_law_917 ?_
  refine x_aload_n F 2 dL_law_918 rfl rfl ?_
  refine x_iload F 1 dL_law_919 rfl ?_
  refine x_iconst F (v := nI (4)) dL_law_921 (by decide) ?_
  refine x_iadd F dL_law_922 ?_
  refine xW.toi (nI (i + 4)) (nI_add _ _) ?_
  refine x_sld F hX hbl hbA (show i + 4 < L by omega) (by omega) dL_law_923 ?_
  refine x_aload_n F 2 dL_law_924 rfl rfl ?_
  refine x_iload F 1 dL_law_925 rfl ?_
  refine x_iconst F (v := nI (5)) dL_law_927 (by decide) ?_
  refine x_iadd F dL_law_928 ?_
  refine xW.toi (nI (i + 5)) (nI_add _ _) ?_
  refine x_sld F hX hbl hbA (show i + 5 < L by omega) (by omega) dL_law_929 ?_
  refine yVr (n := 4) (As := [.int (xs (i + 1)), .long ((((xs (i + 2)).toInt64) <<< ((nI (32)).toInt64 &&& 63)) ||| (((xs (i + 3)).toInt64) &&& (4294967295))), .int (xs (i + 4)), .int (xs (i + 5))]) (ci := 6) F kmL_107 kiM_linked ksM_linked knM kcM_linked (by decide +kernel) dL_law_930 (hnext n2) rfl ((hfr2 a (Or.inr hga) (by omega)).trans ha0) rfl rfl (Nat.le_of_ble_eq_true rfl) ⟨Nat.le_of_ble_eq_true rfl, Nat.le_of_ble_eq_true rfl⟩ ⟨by show cl + 1 + 0 ≤ 601024; omega, by show sl + 6 + 0 ≤ 7293034; omega⟩ (fun r3 n3 M3 hp => ?_)
  obtain ⟨hr3, hn3, hfr3, hRW3, hval⟩ := hp
  rw [hn3, hr3]
  show xW p l e room_1 s m #[Value.ref b] below meth c D xcl (fun q => s.heap.size ≤ q) 8 (lw_Z below #[Value.ref b] s) (cl + 1) (sl + 6) (n2) M3 933 [(5, .int (kk0)), (4, .int (nI (i))), (0, .ref (b)), (1, .ref (g)), (2, .ref (a)), (3, .ref (o))] [.long (b0)]
  refine x_lstore F [(6, .long (b0)), (5, .int (kk0)), (4, .int (nI (i))), (0, .ref (b)), (1, .ref (g)), (2, .ref (a)), (3, .ref (o))] dL_law_933 (by decide) rfl ?_
  refine x_aload_n F 5 dL_law_935 rfl rfl ?_
  obtain ⟨fsb, hb0⟩ := RWk_a hRW3
  refine yVr (n := 0) (As := []) (ci := 6) F kmL_64 kiM_thrown ksM_thrown knM kcM_thrown (by decide +kernel) dL_law_936 (RWk_th hRW3) rfl hb0 rfl rfl (Nat.le_of_ble_eq_true rfl) ⟨Nat.le_of_ble_eq_true rfl, Nat.le_of_ble_eq_true rfl⟩ ⟨by show cl + 1 + 0 ≤ 601024; omega, by show sl + 6 + 0 ≤ 7293034; omega⟩ (fun r4 n4 M4 hp => ?_)
  obtain ⟨hr4, hn4, hM4⟩ := hp
  rw [hn4, hr4, hM4]
  show xW p l e room_1 s m #[Value.ref b] below meth c D xcl (fun q => s.heap.size ≤ q) 8 (lw_Z below #[Value.ref b] s) (cl + 1) (sl + 6) (n2) M3 939 [(6, .long (b0)), (5, .int (kk0)), (4, .int (nI (i))), (0, .ref (b)), (1, .ref (g)), (2, .ref (a)), (3, .ref (o))] [.int (kk0)]
  refine x_iload F 1 dL_law_939 rfl ?_
  refine x_icmp_eq F (tgt := 946) dL_law_941 (by decide) (fun c1 => ?_) (fun c1 => ?_)
  · skip
    refine x_iload F 1 dL_law_946 rfl ?_
    refine x_if_ne F (tgt := 962) dL_law_948 (by decide) (fun c2 => ?_) (fun c2 => ?_)
    · skip
      refine x_goto F (tgt := 1169) dL_law_962 (by decide) ?_
      refine xW.sub [2, 3, 4, 5, 6] rfl ?_
      exact kk _ _ _ _ _ (by omega) (by omega) ⟨_, hRW3⟩ ((hfr3 o (Or.inr hao)).trans ho2)
    · skip
      refine x_aload_n F 6 dL_law_951 rfl rfl ?_
      refine x_iconst F (v := nI (0)) dL_law_952 (by decide) ?_
      refine x_lald F dL_law_953 ((hfr3 o (Or.inr hao)).trans ho2) (pk_in (0) (1) (by omega)) ?_
      refine xW.tol ((f2) (0)) (by rw [nI_clamp (by omega)]) ?_
      refine x_lload F 0 dL_law_954 rfl ?_
      refine x_lcmp F dL_law_956 ?_
      refine x_if_eq F (tgt := 962) dL_law_957 (by decide) (fun c3 => ?_) (fun c3 => ?_)
      · skip
        have c3 : (f2) (0) = b0 := (lg_cmp_eq ((f2) (0)) (b0)).mp c3
        refine x_goto F (tgt := 1169) dL_law_962 (by decide) ?_
        refine xW.sub [2, 3, 4, 5, 6] rfl ?_
        exact kk _ _ _ _ _ (by omega) (by omega) ⟨_, hRW3⟩ ((hfr3 o (Or.inr hao)).trans ho2)
      · skip
        have c3 : ¬ (f2) (0) = b0 := fun z => c3 ((lg_cmp_eq ((f2) (0)) (b0)).mpr z)
        exact absurd (hval c2) c3
  · skip
    exact absurd rfl c1
set_option maxHeartbeats 4000000 in
set_option maxRecDepth 100000 in
theorem lwc_965 {l : Launch} (hfl : x_fl l) {p : Program} {e : Env} {s : State} {m : MethodId} {below : List Frame} {meth : Method} {c : Code} {D : va_G} {b L : Nat} {xs : Nat → Int32} {g a o : Nat} (F : xF p s m #[Value.ref b] meth c D xcl (fun q => s.heap.size ≤ q) code 8 "GoodsTreeLaw" (xw (Cond.initialized "GoodsTreeLaw"))) (hX : va_X b L xs s s.heap) (hbl : b < s.heap.size) (hL : L ≤ 3584) (hga : g + 45 < a) (hao : a + 18 < o) {i cl sl nx1 : Nat} {M1 : xH} {f1 : Nat → Int64} (hi : i + 7 ≤ L) (hcl : cl + 1 ≤ 601024) (hsl : sl + 6 ≤ 7293034) (hRW : ∃ k, RWk M1 g a k) (ho : M1 o = some (.inl (.long, 1, .inr (.inl f1)))) (kk : ∀ (nx2 : Nat) (M2 : xH) (f2 : Nat → Int64) (cl2 sl2 : Nat), cl2 ≤ cl + 1 → sl2 ≤ sl + 6 → (∃ k, RWk M2 g a k) → M2 o = some (.inl (.long, 1, .inr (.inl f2))) → xW p l e room_1 s m #[Value.ref b] below meth c D xcl (fun q => s.heap.size ≤ q) 8 (lw_Z below #[Value.ref b] s) (cl2) (sl2) (nx2) M2 1169 [(4, .int (nI (i))), (0, .ref (b)), (1, .ref (g)), (2, .ref (a)), (3, .ref (o))] []) : xW p l e room_1 s m #[Value.ref b] below meth c D xcl (fun q => s.heap.size ≤ q) 8 (lw_Z below #[Value.ref b] s) (cl) (sl) (nx1) M1 965 [(4, .int (nI (i))), (0, .ref (b)), (1, .ref (g)), (2, .ref (a)), (3, .ref (o))] [] := by
  have hbA : ¬ (s.heap.size ≤ b) := by omega
  refine x_aload_n F 2 dL_law_965 rfl rfl ?_
  refine x_aload_n F 1 dL_law_966 rfl rfl ?_
  refine x_iload F 0 dL_law_967 rfl ?_
  refine x_iconst F (v := nI (1)) dL_law_969 (by decide) ?_
  refine x_iadd F dL_law_970 ?_
  refine xW.toi (nI (i + 1)) (nI_add _ _) ?_
  refine x_sld F hX hbl hbA (show i + 1 < L by omega) (by omega) dL_law_971 ?_
  refine x_aload_n F 1 dL_law_972 rfl rfl ?_
  refine x_iload F 0 dL_law_973 rfl ?_
  refine x_iconst F (v := nI (2)) dL_law_975 (by decide) ?_
  refine x_iadd F dL_law_976 ?_
  refine xW.toi (nI (i + 2)) (nI_add _ _) ?_
  refine x_sld F hX hbl hbA (show i + 2 < L by omega) (by omega) dL_law_977 ?_
  refine x_aload_n F 4 dL_law_978 rfl rfl ?_
  obtain ⟨k0, hRW0⟩ := id hRW
  obtain ⟨fsa, ha0⟩ := RWk_a hRW0
  obtain ⟨kk0, b0, hcall⟩ := L_lost (l := l) hfl (nx := nx1) hga hao ho hRW (xs (i + 1)) (xs (i + 2))
  refine ySH (n := 4) (As := [.ref (g), .int (xs (i + 1)), .int (xs (i + 2)), .ref (o)]) F rfl kmL_108 ktL_lost knL kwL_lost (by decide +kernel) dL_law_979 hcall rfl rfl (Nat.le_of_ble_eq_true rfl) ⟨Nat.le_of_ble_eq_true rfl, Nat.le_of_ble_eq_true rfl⟩ ⟨by show cl + 1 ≤ 601024; omega, by show sl + 6 ≤ 7293034; omega⟩ (fun r2 n2 M2 hp => ?_)
  obtain ⟨hr2, -, f2, ho2, hfr2, hnext⟩ := hp
  rw [hr2]
  show xW p l e room_1 s m #[Value.ref b] below meth c D xcl (fun q => s.heap.size ≤ q) 8 (lw_Z below #[Value.ref b] s) (cl + 1) (sl + 6) (n2) M2 982 [(4, .int (nI (i))), (0, .ref (b)), (1, .ref (g)), (2, .ref (a)), (3, .ref (o))] [.int (kk0)]
  refine x_istore F [(5, .int (kk0)), (4, .int (nI (i))), (0, .ref (b)), (1, .ref (g)), (2, .ref (a)), (3, .ref (o))] dL_law_982 (by decide) rfl ?_
  refine x_aload_n F 4 dL_law_984 rfl rfl ?_
  refine x_aload_n F 2 dL_law_985 rfl rfl ?_
  refine x_iload F 1 dL_law_986 rfl ?_
  refine x_iconst F (v := nI (1)) dL_law_988 (by decide) ?_
  refine x_iadd F dL_law_989 ?_
  refine xW.toi (nI (i + 1)) (nI_add _ _) ?_
  refine x_sld F hX hbl hbA (show i + 1 < L by omega) (by omega) dL_law_990 ?_
  refine x_aload_n F 2 dL_law_991 rfl rfl ?_
  refine x_iload F 1 dL_law_992 rfl ?_
  refine x_iconst F (v := nI (2)) dL_law_994 (by decide) ?_
  refine x_iadd F dL_law_995 ?_
  refine xW.toi (nI (i + 2)) (nI_add _ _) ?_
  refine x_sld F hX hbl hbA (show i + 2 < L by omega) (by omega) dL_law_996 ?_
  refine yVr (n := 2) (As := [.int (xs (i + 1)), .int (xs (i + 2))]) (ci := 6) F kmL_110 kiM_lost ksM_lost knM kcM_lost (by decide +kernel) dL_law_997 (hnext n2) rfl ((hfr2 a (Or.inr hga) (by omega)).trans ha0) rfl rfl (Nat.le_of_ble_eq_true rfl) ⟨Nat.le_of_ble_eq_true rfl, Nat.le_of_ble_eq_true rfl⟩ ⟨by show cl + 1 + 0 ≤ 601024; omega, by show sl + 6 + 0 ≤ 7293034; omega⟩ (fun r3 n3 M3 hp => ?_)
  obtain ⟨hr3, hn3, hfr3, hRW3, hval⟩ := hp
  rw [hn3, hr3]
  show xW p l e room_1 s m #[Value.ref b] below meth c D xcl (fun q => s.heap.size ≤ q) 8 (lw_Z below #[Value.ref b] s) (cl + 1) (sl + 6) (n2) M3 1000 [(5, .int (kk0)), (4, .int (nI (i))), (0, .ref (b)), (1, .ref (g)), (2, .ref (a)), (3, .ref (o))] [.int (b0)]
  refine x_istore F [(6, .int (b0)), (5, .int (kk0)), (4, .int (nI (i))), (0, .ref (b)), (1, .ref (g)), (2, .ref (a)), (3, .ref (o))] dL_law_1000 (by decide) rfl ?_
  refine x_aload_n F 5 dL_law_1002 rfl rfl ?_
  obtain ⟨fsb, hb0⟩ := RWk_a hRW3
  refine yVr (n := 0) (As := []) (ci := 6) F kmL_64 kiM_thrown ksM_thrown knM kcM_thrown (by decide +kernel) dL_law_1003 (RWk_th hRW3) rfl hb0 rfl rfl (Nat.le_of_ble_eq_true rfl) ⟨Nat.le_of_ble_eq_true rfl, Nat.le_of_ble_eq_true rfl⟩ ⟨by show cl + 1 + 0 ≤ 601024; omega, by show sl + 6 + 0 ≤ 7293034; omega⟩ (fun r4 n4 M4 hp => ?_)
  obtain ⟨hr4, hn4, hM4⟩ := hp
  rw [hn4, hr4, hM4]
  show xW p l e room_1 s m #[Value.ref b] below meth c D xcl (fun q => s.heap.size ≤ q) 8 (lw_Z below #[Value.ref b] s) (cl + 1) (sl + 6) (n2) M3 1006 [(6, .int (b0)), (5, .int (kk0)), (4, .int (nI (i))), (0, .ref (b)), (1, .ref (g)), (2, .ref (a)), (3, .ref (o))] [.int (kk0)]
  refine x_iload F 1 dL_law_1006 rfl ?_
  refine x_icmp_eq F (tgt := 1013) dL_law_1008 (by decide) (fun c1 => ?_) (fun c1 => ?_)
  · skip
    refine x_iload F 1 dL_law_1013 rfl ?_
    refine x_if_ne F (tgt := 1030) dL_law_1015 (by decide) (fun c2 => ?_) (fun c2 => ?_)
    · skip
      refine x_goto F (tgt := 1169) dL_law_1030 (by decide) ?_
      refine xW.sub [2, 3, 4, 5, 6] rfl ?_
      exact kk _ _ _ _ _ (by omega) (by omega) ⟨_, hRW3⟩ ((hfr3 o (Or.inr hao)).trans ho2)
    · skip
      refine x_aload_n F 6 dL_law_1018 rfl rfl ?_
      refine x_iconst F (v := nI (0)) dL_law_1019 (by decide) ?_
      refine x_lald F dL_law_1020 ((hfr3 o (Or.inr hao)).trans ho2) (pk_in (0) (1) (by omega)) ?_
      refine xW.tol ((f2) (0)) (by rw [nI_clamp (by omega)]) ?_
      refine x_iload F 0 dL_law_1021 rfl ?_
      refine x_i2l F dL_law_1023 ?_
      refine x_lcmp F dL_law_1024 ?_
      refine x_if_eq F (tgt := 1030) dL_law_1025 (by decide) (fun c3 => ?_) (fun c3 => ?_)
      · skip
        have c3 : (f2) (0) = (b0).toInt64 := (lg_cmp_eq ((f2) (0)) ((b0).toInt64)).mp c3
        refine x_goto F (tgt := 1169) dL_law_1030 (by decide) ?_
        refine xW.sub [2, 3, 4, 5, 6] rfl ?_
        exact kk _ _ _ _ _ (by omega) (by omega) ⟨_, hRW3⟩ ((hfr3 o (Or.inr hao)).trans ho2)
      · skip
        have c3 : ¬ (f2) (0) = (b0).toInt64 := fun z => c3 ((lg_cmp_eq ((f2) (0)) ((b0).toInt64)).mpr z)
        exact absurd (hval c2) c3
  · skip
    exact absurd rfl c1
set_option maxHeartbeats 4000000 in
set_option maxRecDepth 100000 in
theorem lwc_1033 {l : Launch} (hfl : x_fl l) {p : Program} {e : Env} {s : State} {m : MethodId} {below : List Frame} {meth : Method} {c : Code} {D : va_G} {b L : Nat} {xs : Nat → Int32} {g a o : Nat} (F : xF p s m #[Value.ref b] meth c D xcl (fun q => s.heap.size ≤ q) code 8 "GoodsTreeLaw" (xw (Cond.initialized "GoodsTreeLaw"))) (hX : va_X b L xs s s.heap) (hbl : b < s.heap.size) (hL : L ≤ 3584) (hga : g + 45 < a) (hao : a + 18 < o) {i cl sl nx1 : Nat} {M1 : xH} {f1 : Nat → Int64} (hi : i + 7 ≤ L) (hcl : cl + 1 ≤ 601024) (hsl : sl + 6 ≤ 7293034) (hRW : ∃ k, RWk M1 g a k) (ho : M1 o = some (.inl (.long, 1, .inr (.inl f1)))) (kk : ∀ (nx2 : Nat) (M2 : xH) (f2 : Nat → Int64) (cl2 sl2 : Nat), cl2 ≤ cl + 1 → sl2 ≤ sl + 6 → (∃ k, RWk M2 g a k) → M2 o = some (.inl (.long, 1, .inr (.inl f2))) → xW p l e room_1 s m #[Value.ref b] below meth c D xcl (fun q => s.heap.size ≤ q) 8 (lw_Z below #[Value.ref b] s) (cl2) (sl2) (nx2) M2 1169 [(4, .int (nI (i))), (0, .ref (b)), (1, .ref (g)), (2, .ref (a)), (3, .ref (o))] []) : xW p l e room_1 s m #[Value.ref b] below meth c D xcl (fun q => s.heap.size ≤ q) 8 (lw_Z below #[Value.ref b] s) (cl) (sl) (nx1) M1 1033 [(4, .int (nI (i))), (0, .ref (b)), (1, .ref (g)), (2, .ref (a)), (3, .ref (o))] [] := by
  have hbA : ¬ (s.heap.size ≤ b) := by omega
  refine x_aload_n F 2 dL_law_1033 rfl rfl ?_
  refine x_aload_n F 4 dL_law_1034 rfl rfl ?_
  obtain ⟨k0, hRW0⟩ := id hRW
  obtain ⟨fsa, ha0⟩ := RWk_a hRW0
  obtain ⟨kk0, b0, hcall⟩ := L_search (l := l) hfl (nx := nx1) hga hao ho hRW 
  refine ySH (n := 2) (As := [.ref (g), .ref (o)]) F rfl kmL_111 ktL_search knL kwL_search (by decide +kernel) dL_law_1035 hcall rfl rfl (Nat.le_of_ble_eq_true rfl) ⟨Nat.le_of_ble_eq_true rfl, Nat.le_of_ble_eq_true rfl⟩ ⟨by show cl + 1 ≤ 601024; omega, by show sl + 6 ≤ 7293034; omega⟩ (fun r2 n2 M2 hp => ?_)
  obtain ⟨hr2, -, f2, ho2, hfr2, hnext⟩ := hp
  rw [hr2]
  show xW p l e room_1 s m #[Value.ref b] below meth c D xcl (fun q => s.heap.size ≤ q) 8 (lw_Z below #[Value.ref b] s) (cl + 1) (sl + 6) (n2) M2 1038 [(4, .int (nI (i))), (0, .ref (b)), (1, .ref (g)), (2, .ref (a)), (3, .ref (o))] [.int (kk0)]
  refine x_istore F [(5, .int (kk0)), (4, .int (nI (i))), (0, .ref (b)), (1, .ref (g)), (2, .ref (a)), (3, .ref (o))] dL_law_1038 (by decide) rfl ?_
  refine x_aload_n F 4 dL_law_1040 rfl rfl ?_
  refine yVr (n := 0) (As := []) (ci := 6) F kmL_113 kiM_search ksM_search knM kcM_search (by decide +kernel) dL_law_1041 (hnext n2) rfl ((hfr2 a (Or.inr hga) (by omega)).trans ha0) rfl rfl (Nat.le_of_ble_eq_true rfl) ⟨Nat.le_of_ble_eq_true rfl, Nat.le_of_ble_eq_true rfl⟩ ⟨by show cl + 1 + 0 ≤ 601024; omega, by show sl + 6 + 0 ≤ 7293034; omega⟩ (fun r3 n3 M3 hp => ?_)
  obtain ⟨hr3, hn3, hfr3, hRW3, hval⟩ := hp
  rw [hn3, hr3]
  show xW p l e room_1 s m #[Value.ref b] below meth c D xcl (fun q => s.heap.size ≤ q) 8 (lw_Z below #[Value.ref b] s) (cl + 1) (sl + 6) (n2) M3 1044 [(5, .int (kk0)), (4, .int (nI (i))), (0, .ref (b)), (1, .ref (g)), (2, .ref (a)), (3, .ref (o))] [.int (b0)]
  refine x_istore F [(6, .int (b0)), (5, .int (kk0)), (4, .int (nI (i))), (0, .ref (b)), (1, .ref (g)), (2, .ref (a)), (3, .ref (o))] dL_law_1044 (by decide) rfl ?_
  refine x_aload_n F 5 dL_law_1046 rfl rfl ?_
  obtain ⟨fsb, hb0⟩ := RWk_a hRW3
  refine yVr (n := 0) (As := []) (ci := 6) F kmL_64 kiM_thrown ksM_thrown knM kcM_thrown (by decide +kernel) dL_law_1047 (RWk_th hRW3) rfl hb0 rfl rfl (Nat.le_of_ble_eq_true rfl) ⟨Nat.le_of_ble_eq_true rfl, Nat.le_of_ble_eq_true rfl⟩ ⟨by show cl + 1 + 0 ≤ 601024; omega, by show sl + 6 + 0 ≤ 7293034; omega⟩ (fun r4 n4 M4 hp => ?_)
  obtain ⟨hr4, hn4, hM4⟩ := hp
  rw [hn4, hr4, hM4]
  show xW p l e room_1 s m #[Value.ref b] below meth c D xcl (fun q => s.heap.size ≤ q) 8 (lw_Z below #[Value.ref b] s) (cl + 1) (sl + 6) (n2) M3 1050 [(6, .int (b0)), (5, .int (kk0)), (4, .int (nI (i))), (0, .ref (b)), (1, .ref (g)), (2, .ref (a)), (3, .ref (o))] [.int (kk0)]
  refine x_iload F 1 dL_law_1050 rfl ?_
  refine x_icmp_eq F (tgt := 1057) dL_law_1052 (by decide) (fun c1 => ?_) (fun c1 => ?_)
  · skip
    refine x_iload F 1 dL_law_1057 rfl ?_
    refine x_if_ne F (tgt := 1074) dL_law_1059 (by decide) (fun c2 => ?_) (fun c2 => ?_)
    · skip
      refine x_goto F (tgt := 1169) dL_law_1074 (by decide) ?_
      refine xW.sub [2, 3, 4, 5, 6] rfl ?_
      exact kk _ _ _ _ _ (by omega) (by omega) ⟨_, hRW3⟩ ((hfr3 o (Or.inr hao)).trans ho2)
    · skip
      refine x_aload_n F 6 dL_law_1062 rfl rfl ?_
      refine x_iconst F (v := nI (0)) dL_law_1063 (by decide) ?_
      refine x_lald F dL_law_1064 ((hfr3 o (Or.inr hao)).trans ho2) (pk_in (0) (1) (by omega)) ?_
      refine xW.tol ((f2) (0)) (by rw [nI_clamp (by omega)]) ?_
      refine x_iload F 0 dL_law_1065 rfl ?_
      refine x_i2l F dL_law_1067 ?_
      refine x_lcmp F dL_law_1068 ?_
      refine x_if_eq F (tgt := 1074) dL_law_1069 (by decide) (fun c3 => ?_) (fun c3 => ?_)
      · skip
        have c3 : (f2) (0) = (b0).toInt64 := (lg_cmp_eq ((f2) (0)) ((b0).toInt64)).mp c3
        refine x_goto F (tgt := 1169) dL_law_1074 (by decide) ?_
        refine xW.sub [2, 3, 4, 5, 6] rfl ?_
        exact kk _ _ _ _ _ (by omega) (by omega) ⟨_, hRW3⟩ ((hfr3 o (Or.inr hao)).trans ho2)
      · skip
        have c3 : ¬ (f2) (0) = (b0).toInt64 := fun z => c3 ((lg_cmp_eq ((f2) (0)) ((b0).toInt64)).mpr z)
        exact absurd (hval c2) c3
  · skip
    exact absurd rfl c1
set_option maxHeartbeats 4000000 in
set_option maxRecDepth 100000 in
theorem lwc_1077 {l : Launch} (hfl : x_fl l) {p : Program} {e : Env} {s : State} {m : MethodId} {below : List Frame} {meth : Method} {c : Code} {D : va_G} {b L : Nat} {xs : Nat → Int32} {g a o : Nat} (F : xF p s m #[Value.ref b] meth c D xcl (fun q => s.heap.size ≤ q) code 8 "GoodsTreeLaw" (xw (Cond.initialized "GoodsTreeLaw"))) (hX : va_X b L xs s s.heap) (hbl : b < s.heap.size) (hL : L ≤ 3584) (hga : g + 45 < a) (hao : a + 18 < o) {i cl sl nx1 : Nat} {M1 : xH} {f1 : Nat → Int64} (hi : i + 7 ≤ L) (hcl : cl + 1 ≤ 601024) (hsl : sl + 6 ≤ 7293034) (hRW : ∃ k, RWk M1 g a k) (ho : M1 o = some (.inl (.long, 1, .inr (.inl f1)))) (kk : ∀ (nx2 : Nat) (M2 : xH) (f2 : Nat → Int64) (cl2 sl2 : Nat), cl2 ≤ cl + 1 → sl2 ≤ sl + 6 → (∃ k, RWk M2 g a k) → M2 o = some (.inl (.long, 1, .inr (.inl f2))) → xW p l e room_1 s m #[Value.ref b] below meth c D xcl (fun q => s.heap.size ≤ q) 8 (lw_Z below #[Value.ref b] s) (cl2) (sl2) (nx2) M2 1169 [(4, .int (nI (i))), (0, .ref (b)), (1, .ref (g)), (2, .ref (a)), (3, .ref (o))] []) : xW p l e room_1 s m #[Value.ref b] below meth c D xcl (fun q => s.heap.size ≤ q) 8 (lw_Z below #[Value.ref b] s) (cl) (sl) (nx1) M1 1077 [(4, .int (nI (i))), (0, .ref (b)), (1, .ref (g)), (2, .ref (a)), (3, .ref (o))] [] := by
  have hbA : ¬ (s.heap.size ≤ b) := by omega
  refine x_aload_n F 2 dL_law_1077 rfl rfl ?_
  refine x_aload_n F 1 dL_law_1078 rfl rfl ?_
  refine x_iload F 0 dL_law_1079 rfl ?_
  refine x_iconst F (v := nI (1)) dL_law_1081 (by decide) ?_
  refine x_iadd F dL_law_1082 ?_
  refine xW.toi (nI (i + 1)) (nI_add _ _) ?_
  refine x_sld F hX hbl hbA (show i + 1 < L by omega) (by omega) dL_law_1083 ?_
  refine x_aload_n F 1 dL_law_1084 rfl rfl ?_
  refine x_iload F 0 dL_law_1085 rfl ?_
  refine x_iconst F (v := nI (2)) dL_law_1087 (by decide) ?_
  refine x_iadd F dL_law_1088 ?_
  refine xW.toi (nI (i + 2)) (nI_add _ _) ?_
  refine x_sld F hX hbl hbA (show i + 2 < L by omega) (by omega) dL_law_1089 ?_
  refine x_aload_n F 4 dL_law_1090 rfl rfl ?_
  obtain ⟨k0, hRW0⟩ := id hRW
  obtain ⟨fsa, ha0⟩ := RWk_a hRW0
  obtain ⟨kk0, b0, hcall⟩ := L_found (l := l) hfl (nx := nx1) hga hao ho hRW (xs (i + 1)) (xs (i + 2))
  refine ySH (n := 4) (As := [.ref (g), .int (xs (i + 1)), .int (xs (i + 2)), .ref (o)]) F rfl kmL_114 ktL_found knL kwL_found (by decide +kernel) dL_law_1091 hcall rfl rfl (Nat.le_of_ble_eq_true rfl) ⟨Nat.le_of_ble_eq_true rfl, Nat.le_of_ble_eq_true rfl⟩ ⟨by show cl + 1 ≤ 601024; omega, by show sl + 6 ≤ 7293034; omega⟩ (fun r2 n2 M2 hp => ?_)
  obtain ⟨hr2, -, f2, ho2, hfr2, hnext⟩ := hp
  rw [hr2]
  show xW p l e room_1 s m #[Value.ref b] below meth c D xcl (fun q => s.heap.size ≤ q) 8 (lw_Z below #[Value.ref b] s) (cl + 1) (sl + 6) (n2) M2 1094 [(4, .int (nI (i))), (0, .ref (b)), (1, .ref (g)), (2, .ref (a)), (3, .ref (o))] [.int (kk0)]
  refine x_istore F [(5, .int (kk0)), (4, .int (nI (i))), (0, .ref (b)), (1, .ref (g)), (2, .ref (a)), (3, .ref (o))] dL_law_1094 (by decide) rfl ?_
  refine x_aload_n F 4 dL_law_1096 rfl rfl ?_
  refine x_aload_n F 2 dL_law_1097 rfl rfl ?_
  refine x_iload F 1 dL_law_1098 rfl ?_
  refine x_iconst F (v := nI (1)) dL_law_1100 (by decide) ?_
  refine x_iadd F dL_law_1101 ?_
  refine xW.toi (nI (i + 1)) (nI_add _ _) ?_
  refine x_sld F hX hbl hbA (show i + 1 < L by omega) (by omega) dL_law_1102 ?_
  refine x_aload_n F 2 dL_law_1103 rfl rfl ?_
  refine x_iload F 1 dL_law_1104 rfl ?_
  refine x_iconst F (v := nI (2)) dL_law_1106 (by decide) ?_
  refine x_iadd F dL_law_1107 ?_
  refine xW.toi (nI (i + 2)) (nI_add _ _) ?_
  refine x_sld F hX hbl hbA (show i + 2 < L by omega) (by omega) dL_law_1108 ?_
  refine yVr (n := 2) (As := [.int (xs (i + 1)), .int (xs (i + 2))]) (ci := 6) F kmL_116 kiM_found ksM_found knM kcM_found (by decide +kernel) dL_law_1109 (hnext n2) rfl ((hfr2 a (Or.inr hga) (by omega)).trans ha0) rfl rfl (Nat.le_of_ble_eq_true rfl) ⟨Nat.le_of_ble_eq_true rfl, Nat.le_of_ble_eq_true rfl⟩ ⟨by show cl + 1 + 0 ≤ 601024; omega, by show sl + 6 + 0 ≤ 7293034; omega⟩ (fun r3 n3 M3 hp => ?_)
  obtain ⟨hr3, hn3, hfr3, hRW3, hval⟩ := hp
  rw [hn3, hr3]
  show xW p l e room_1 s m #[Value.ref b] below meth c D xcl (fun q => s.heap.size ≤ q) 8 (lw_Z below #[Value.ref b] s) (cl + 1) (sl + 6) (n2) M3 1112 [(5, .int (kk0)), (4, .int (nI (i))), (0, .ref (b)), (1, .ref (g)), (2, .ref (a)), (3, .ref (o))] [.long (b0)]
  refine x_lstore F [(6, .long (b0)), (5, .int (kk0)), (4, .int (nI (i))), (0, .ref (b)), (1, .ref (g)), (2, .ref (a)), (3, .ref (o))] dL_law_1112 (by decide) rfl ?_
  refine x_aload_n F 5 dL_law_1114 rfl rfl ?_
  obtain ⟨fsb, hb0⟩ := RWk_a hRW3
  refine yVr (n := 0) (As := []) (ci := 6) F kmL_64 kiM_thrown ksM_thrown knM kcM_thrown (by decide +kernel) dL_law_1115 (RWk_th hRW3) rfl hb0 rfl rfl (Nat.le_of_ble_eq_true rfl) ⟨Nat.le_of_ble_eq_true rfl, Nat.le_of_ble_eq_true rfl⟩ ⟨by show cl + 1 + 0 ≤ 601024; omega, by show sl + 6 + 0 ≤ 7293034; omega⟩ (fun r4 n4 M4 hp => ?_)
  obtain ⟨hr4, hn4, hM4⟩ := hp
  rw [hn4, hr4, hM4]
  show xW p l e room_1 s m #[Value.ref b] below meth c D xcl (fun q => s.heap.size ≤ q) 8 (lw_Z below #[Value.ref b] s) (cl + 1) (sl + 6) (n2) M3 1118 [(6, .long (b0)), (5, .int (kk0)), (4, .int (nI (i))), (0, .ref (b)), (1, .ref (g)), (2, .ref (a)), (3, .ref (o))] [.int (kk0)]
  refine x_iload F 1 dL_law_1118 rfl ?_
  refine x_icmp_eq F (tgt := 1125) dL_law_1120 (by decide) (fun c1 => ?_) (fun c1 => ?_)
  · skip
    refine x_iload F 1 dL_law_1125 rfl ?_
    refine x_if_ne F (tgt := 1141) dL_law_1127 (by decide) (fun c2 => ?_) (fun c2 => ?_)
    · skip
      refine x_goto F (tgt := 1169) dL_law_1141 (by decide) ?_
      refine xW.sub [2, 3, 4, 5, 6] rfl ?_
      exact kk _ _ _ _ _ (by omega) (by omega) ⟨_, hRW3⟩ ((hfr3 o (Or.inr hao)).trans ho2)
    · skip
      refine x_aload_n F 6 dL_law_1130 rfl rfl ?_
      refine x_iconst F (v := nI (0)) dL_law_1131 (by decide) ?_
      refine x_lald F dL_law_1132 ((hfr3 o (Or.inr hao)).trans ho2) (pk_in (0) (1) (by omega)) ?_
      refine xW.tol ((f2) (0)) (by rw [nI_clamp (by omega)]) ?_
      refine x_lload F 0 dL_law_1133 rfl ?_
      refine x_lcmp F dL_law_1135 ?_
      refine x_if_eq F (tgt := 1141) dL_law_1136 (by decide) (fun c3 => ?_) (fun c3 => ?_)
      · skip
        have c3 : (f2) (0) = b0 := (lg_cmp_eq ((f2) (0)) (b0)).mp c3
        refine x_goto F (tgt := 1169) dL_law_1141 (by decide) ?_
        refine xW.sub [2, 3, 4, 5, 6] rfl ?_
        exact kk _ _ _ _ _ (by omega) (by omega) ⟨_, hRW3⟩ ((hfr3 o (Or.inr hao)).trans ho2)
      · skip
        have c3 : ¬ (f2) (0) = b0 := fun z => c3 ((lg_cmp_eq ((f2) (0)) (b0)).mpr z)
        exact absurd (hval c2) c3
  · skip
    exact absurd rfl c1
set_option maxHeartbeats 4000000 in
set_option maxRecDepth 100000 in
theorem lwc_1144 {l : Launch} (hfl : x_fl l) {p : Program} {e : Env} {s : State} {m : MethodId} {below : List Frame} {meth : Method} {c : Code} {D : va_G} {b L : Nat} {xs : Nat → Int32} {g a o : Nat} (F : xF p s m #[Value.ref b] meth c D xcl (fun q => s.heap.size ≤ q) code 8 "GoodsTreeLaw" (xw (Cond.initialized "GoodsTreeLaw"))) (hX : va_X b L xs s s.heap) (hbl : b < s.heap.size) (hL : L ≤ 3584) (hga : g + 45 < a) (hao : a + 18 < o) {i cl sl nx1 : Nat} {M1 : xH} {f1 : Nat → Int64} (hi : i + 7 ≤ L) (hcl : cl + 1 ≤ 601024) (hsl : sl + 6 ≤ 7293034) (hRW : ∃ k, RWk M1 g a k) (ho : M1 o = some (.inl (.long, 1, .inr (.inl f1)))) (kk : ∀ (nx2 : Nat) (M2 : xH) (f2 : Nat → Int64) (cl2 sl2 : Nat), cl2 ≤ cl + 1 → sl2 ≤ sl + 6 → (∃ k, RWk M2 g a k) → M2 o = some (.inl (.long, 1, .inr (.inl f2))) → xW p l e room_1 s m #[Value.ref b] below meth c D xcl (fun q => s.heap.size ≤ q) 8 (lw_Z below #[Value.ref b] s) (cl2) (sl2) (nx2) M2 1169 [(4, .int (nI (i))), (0, .ref (b)), (1, .ref (g)), (2, .ref (a)), (3, .ref (o))] []) : xW p l e room_1 s m #[Value.ref b] below meth c D xcl (fun q => s.heap.size ≤ q) 8 (lw_Z below #[Value.ref b] s) (cl) (sl) (nx1) M1 1144 [(4, .int (nI (i))), (0, .ref (b)), (1, .ref (g)), (2, .ref (a)), (3, .ref (o))] [] := by
  have hbA : ¬ (s.heap.size ≤ b) := by omega
  refine x_aload_n F 2 dL_law_1144 rfl rfl ?_
  refine x_aload_n F 1 dL_law_1145 rfl rfl ?_
  refine x_iload F 0 dL_law_1146 rfl ?_
  refine x_iconst F (v := nI (1)) dL_law_1148 (by decide) ?_
  refine x_iadd F dL_law_1149 ?_
  refine xW.toi (nI (i + 1)) (nI_add _ _) ?_
  refine x_sld F hX hbl hbA (show i + 1 < L by omega) (by omega) dL_law_1150 ?_
  obtain ⟨k0, hRW0⟩ := id hRW
  obtain ⟨fsg, hg0⟩ := RWk_g hRW0
  obtain ⟨fsa, ha0⟩ := RWk_a hRW0
  obtain ⟨v0, hcall⟩ := L_count (l := l) (nx := nx1) hga hRW (xs (i + 1))
  refine yVr (n := 1) (As := [.int (xs (i + 1))]) (ci := 5) F kmL_117 kiG_count ksG_count knG kcG_count (by decide +kernel) dL_law_1151 hcall rfl hg0 rfl rfl (Nat.le_of_ble_eq_true rfl) ⟨Nat.le_of_ble_eq_true rfl, Nat.le_of_ble_eq_true rfl⟩ ⟨by show cl + 0 ≤ 601024; omega, by show sl + 0 ≤ 7293034; omega⟩ (fun r2 n2 M2 hp => ?_)
  obtain ⟨hr2, hn2, hfr2, hnext⟩ := hp
  rw [hn2, hr2]
  show xW p l e room_1 s m #[Value.ref b] below meth c D xcl (fun q => s.heap.size ≤ q) 8 (lw_Z below #[Value.ref b] s) (cl) (sl) (nx1) M2 1154 [(4, .int (nI (i))), (0, .ref (b)), (1, .ref (g)), (2, .ref (a)), (3, .ref (o))] [.int (v0)]
  refine x_aload_n F 3 dL_law_1154 rfl rfl ?_
  refine x_aload_n F 1 dL_law_1155 rfl rfl ?_
  refine x_iload F 0 dL_law_1156 rfl ?_
  refine x_iconst F (v := nI (1)) dL_law_1158 (by decide) ?_
  refine x_iadd F dL_law_1159 ?_
  refine xW.toi (nI (i + 1)) (nI_add _ _) ?_
  refine x_sld F hX hbl hbA (show i + 1 < L by omega) (by omega) dL_law_1160 ?_
  refine yVr (n := 1) (As := [.int (xs (i + 1))]) (ci := 6) F kmL_120 kiM_count ksM_count knM kcM_count (by decide +kernel) dL_law_1161 (hnext (nx1)) rfl ((hfr2 a (Or.inr hga)).trans ha0) rfl rfl (Nat.le_of_ble_eq_true rfl) ⟨Nat.le_of_ble_eq_true rfl, Nat.le_of_ble_eq_true rfl⟩ ⟨by show cl + 0 ≤ 601024; omega, by show sl + 0 ≤ 7293034; omega⟩ (fun r3 n3 M3 hp => ?_)
  obtain ⟨hr3, hn3, hfr3, hRW3⟩ := hp
  rw [hn3, hr3]
  show xW p l e room_1 s m #[Value.ref b] below meth c D xcl (fun q => s.heap.size ≤ q) 8 (lw_Z below #[Value.ref b] s) (cl) (sl) (nx1) M3 1164 [(4, .int (nI (i))), (0, .ref (b)), (1, .ref (g)), (2, .ref (a)), (3, .ref (o))] [.int (v0), .int (v0)]
  refine x_icmp_eq F (tgt := 1169) dL_law_1164 (by decide) (fun c1 => ?_) (fun c1 => ?_)
  · skip
    exact kk _ _ _ _ _ (by omega) (by omega) hRW3 ((hfr3 o (Or.inr hao)).trans ((hfr2 o (Or.inr (by omega))).trans ho))
  · skip
    exact absurd rfl c1
theorem lt7 {L i : Nat} (hL : L ≤ 3584) (hi : i ≤ 4000) : nI L - nI 7 < nI i ↔ L < i + 7 := by
  rcases Nat.lt_or_ge L 7 with h | h
  · have key : (nI L - nI 7).toInt = (L : Int) - 7 := by
      rcases L with _ | _ | _ | _ | _ | _ | _ | L
      · decide
      · decide
      · decide
      · decide
      · decide
      · decide
      · decide
      · omega
    rw [Int32.lt_iff_toInt_lt, key, nI_toInt (by omega)]
    omega
  · rw [pk_sub h, nI_ltI (by omega) (by omega)]
    omega
set_option maxHeartbeats 8000000 in
set_option maxRecDepth 100000 in
theorem lw_loop {l : Launch} (hfl : x_fl l) {p : Program} {e : Env} {s : State} {m : MethodId} {below : List Frame} {meth : Method} {c : Code} {D : va_G} {b L : Nat} {xs : Nat → Int32} {g a o : Nat} (F : xF p s m #[Value.ref b] meth c D xcl (fun q => s.heap.size ≤ q) code 8 "GoodsTreeLaw" (xw (Cond.initialized "GoodsTreeLaw"))) (hX : va_X b L xs s s.heap) (hbl : b < s.heap.size) (hL : L ≤ 3584) (hga : g + 45 < a) (hao : a + 18 < o) (hr : meth.sig.returnType = ret) : ∀ (f i cl sl nx1 : Nat) (M1 : xH) (f1 : Nat → Int64), L < i + 7 * f + 7 → i ≤ L + 7 → cl + f ≤ 601024 → sl + 6 * f ≤ 7293034 → (∃ k, RWk M1 g a k) → M1 o = some (.inl (.long, 1, .inr (.inl f1))) → xW p l e room_1 s m #[Value.ref b] below meth c D xcl (fun q => s.heap.size ≤ q) 8 (lw_Z below #[Value.ref b] s) (cl) (sl) (nx1) M1 23 [(4, .int (nI (i))), (0, .ref (b)), (1, .ref (g)), (2, .ref (a)), (3, .ref (o))] [] := by
  have hbA : ¬ (s.heap.size ≤ b) := by omega
  intro f
  induction f with
  | zero =>
    intro i cl sl nx1 M1 f1 hf hi hcl hsl hRW ho
    refine x_iload F 0 dL_law_23 rfl ?_
    refine x_aload_n F 1 dL_law_25 rfl rfl ?_
    refine x_slen F hX hbl hbA dL_law_26 ?_
    refine x_bipush F (v := nI (7)) dL_law_27 (by decide) ?_
    refine x_isub F dL_law_29 ?_
    refine xW.toi (nI L - nI 7) (rfl) ?_
    refine x_icmp_gt F (tgt := 1175) dL_law_30 (by decide) (fun c1 => ?_) (fun c1 => ?_)
    · skip
      refine x_iconst F (v := nI 1) dL_law_1175 (by decide) ?_
      exact x_lawret F rfl hr (fun _ h => h) (by omega) (by omega) dL_law_1176
    · skip
      exact absurd ((lt7 hL (by omega)).mpr (by omega)) c1
  | succ f ih =>
    intro i cl sl nx1 M1 f1 hf hi hcl hsl hRW ho
    refine x_iload F 0 dL_law_23 rfl ?_
    refine x_aload_n F 1 dL_law_25 rfl rfl ?_
    refine x_slen F hX hbl hbA dL_law_26 ?_
    refine x_bipush F (v := nI (7)) dL_law_27 (by decide) ?_
    refine x_isub F dL_law_29 ?_
    refine xW.toi (nI L - nI 7) (rfl) ?_
    refine x_icmp_gt F (tgt := 1175) dL_law_30 (by decide) (fun c2 => ?_) (fun c2 => ?_)
    · skip
      refine x_iconst F (v := nI 1) dL_law_1175 (by decide) ?_
      exact x_lawret F rfl hr (fun _ h => h) (by omega) (by omega) dL_law_1176
    · skip
      have hi7 : i + 7 ≤ L := Nat.not_lt.mp (fun z => c2 ((lt7 hL (by omega)).mpr z))
      refine x_aload_n F 1 dL_law_33 rfl rfl ?_
      refine x_iload F 0 dL_law_34 rfl ?_
      refine x_sld F hX hbl hbA (show i < L by omega) (by omega) dL_law_36 ?_
      refine x_bipush F (v := nI (15)) dL_law_37 (by decide) ?_
      refine x_iand F dL_law_39 ?_
      have hback : ∀ (nx2 : Nat) (M2 : xH) (f2 : Nat → Int64) (cl2 sl2 : Nat), cl2 ≤ cl + 1 → sl2 ≤ sl + 6 → (∃ k, RWk M2 g a k) → M2 o = some (.inl (.long, 1, .inr (.inl f2))) → xW p l e room_1 s m #[Value.ref b] below meth c D xcl (fun q => s.heap.size ≤ q) 8 (lw_Z below #[Value.ref b] s) (cl2) (sl2) (nx2) M2 1169 [(4, .int (nI (i))), (0, .ref (b)), (1, .ref (g)), (2, .ref (a)), (3, .ref (o))] [] := by
        intro nx2 M2 f2 cl2 sl2 h1 h2 h3 h4
        refine x_iinc F 0 [(4, .int (nI (i + 7))), (0, .ref (b)), (1, .ref (g)), (2, .ref (a)), (3, .ref (o))] dL_law_1169 rfl (nI_add (i) 7) (by decide) rfl ?_
        refine x_goto F (tgt := 23) dL_law_1172 (by decide) ?_
        exact ih (i + 7) cl2 sl2 nx2 M2 f2 (by omega) (by omega) (by omega) (by omega) h3 h4
      obtain ⟨j, hj, hv⟩ := and15 (xs (i))
      refine xW.toi (nI j) hv ?_
      rcases j with _ | _ | _ | _ | _ | _ | _ | _ | _ | _ | _ | _ | _ | _ | _ | _ | j
      · refine x_tableIn F (tgt := 116) dL_law_40 (by decide) (by decide) (by rfl) (by decide) ?_
        exact lwc_116 hfl F hX hbl hL hga hao hi7 (by omega) (by omega) hRW ho hback
      · refine x_tableIn F (tgt := 141) dL_law_40 (by decide) (by decide) (by rfl) (by decide) ?_
        exact lwc_141 hfl F hX hbl hL hga hao hi7 (by omega) (by omega) hRW ho hback
      · refine x_tableIn F (tgt := 185) dL_law_40 (by decide) (by decide) (by rfl) (by decide) ?_
        exact lwc_185 hfl F hX hbl hL hga hao hi7 (by omega) (by omega) hRW ho hback
      · refine x_tableIn F (tgt := 210) dL_law_40 (by decide) (by decide) (by rfl) (by decide) ?_
        exact lwc_210 hfl F hX hbl hL hga hao hi7 (by omega) (by omega) hRW ho hback
      · refine x_tableIn F (tgt := 235) dL_law_40 (by decide) (by decide) (by rfl) (by decide) ?_
        exact lwc_235 hfl F hX hbl hL hga hao hi7 (by omega) (by omega) hRW ho hback
      · refine x_tableIn F (tgt := 302) dL_law_40 (by decide) (by decide) (by rfl) (by decide) ?_
        exact lwc_302 hfl F hX hbl hL hga hao hi7 (by omega) (by omega) hRW ho hback
      · refine x_tableIn F (tgt := 359) dL_law_40 (by decide) (by decide) (by rfl) (by decide) ?_
        exact lwc_359 hfl F hX hbl hL hga hao hi7 (by omega) (by omega) hRW ho hback
      · refine x_tableIn F (tgt := 503) dL_law_40 (by decide) (by decide) (by rfl) (by decide) ?_
        exact lwc_503 hfl F hX hbl hL hga hao hi7 (by omega) (by omega) hRW ho hback
      · refine x_tableIn F (tgt := 603) dL_law_40 (by decide) (by decide) (by rfl) (by decide) ?_
        exact lwc_603 hfl F hX hbl hL hga hao hi7 (by omega) (by omega) hRW ho hback
      · refine x_tableIn F (tgt := 730) dL_law_40 (by decide) (by decide) (by rfl) (by decide) ?_
        exact lwc_730 hfl F hX hbl hL hga hao hi7 (by omega) (by omega) hRW ho hback
      · refine x_tableIn F (tgt := 842) dL_law_40 (by decide) (by decide) (by rfl) (by decide) ?_
        exact lwc_842 hfl F hX hbl hL hga hao hi7 (by omega) (by omega) hRW ho hback
      · refine x_tableIn F (tgt := 965) dL_law_40 (by decide) (by decide) (by rfl) (by decide) ?_
        exact lwc_965 hfl F hX hbl hL hga hao hi7 (by omega) (by omega) hRW ho hback
      · refine x_tableIn F (tgt := 1033) dL_law_40 (by decide) (by decide) (by rfl) (by decide) ?_
        exact lwc_1033 hfl F hX hbl hL hga hao hi7 (by omega) (by omega) hRW ho hback
      · refine x_tableIn F (tgt := 1077) dL_law_40 (by decide) (by decide) (by rfl) (by decide) ?_
        exact lwc_1077 hfl F hX hbl hL hga hao hi7 (by omega) (by omega) hRW ho hback
      · refine x_tableIn F (tgt := 1144) dL_law_40 (by decide) (by decide) (by rfl) (by decide) ?_
        exact lwc_1144 hfl F hX hbl hL hga hao hi7 (by omega) (by omega) hRW ho hback
      · refine x_tableOut F (tgt := 1169) dL_law_40 (by decide) (by decide) ?_
        exact hback nx1 M1 f1 cl sl (by omega) (by omega) hRW ho
      · omega
