set_option maxHeartbeats 4000000 in
set_option maxRecDepth 100000 in
theorem lwc_type {p : Program} {l : Launch} {e : Env} {s : State} {m : MethodId} {below : List Frame} {meth : Method} {c : Code} {D : gG} {cB cI cJ cZ : ClassId} {b L : Nat} {xs : Nat → Int32} {J2 : SX → SM → Prop} (cx : gX p s m #[Value.ref b] meth c cL_law 4 RL D (tyL cB cI cJ cZ) (fun q => s.heap.size ≤ q)) (hX : va_X b L xs s s.heap) (hbl : b < s.heap.size) {j : Nat} (hj : j + 5 ≤ L) (hL : L ≤ 2560) {u : Nat → Nat → Nat} {st : SX} {tv : Value} {mo : Nat → Nat} {ms : SM} (hs : StepOK J2 st ms) (kk : ∀ (u : Nat → Nat → Nat) (mo : Nat → Nat) (st : SX) (tv : Value) (ms : SM), J2 st ms → gW p l e room_1 s m #[Value.ref b] below meth c D (fun q => s.heap.size ≤ q) 4 (lw_Z below #[Value.ref b] s) 88 2324 (wL cB cI cJ cZ u st tv mo ms).flatten [(0, .ref b), (1, .ref (u 0 0)), (2, .ref (mo 0)), (3, .int (nI j))] 1104 []) : gW p l e room_1 s m #[Value.ref b] below meth c D (fun q => s.heap.size ≤ q) 4 (lw_Z below #[Value.ref b] s) 88 2324 (wL cB cI cJ cZ u st tv mo ms).flatten [(0, .ref b), (1, .ref (u 0 0)), (2, .ref (mo 0)), (3, .int (nI j))] 160 [] := by
  obtain ⟨r, r2, st2, ms2, h1, h2, hJ⟩ := hs.1 (((Int32.toInt64 (xs ((nI j) + 1).toNatClampNeg)) <<< (Int32.toInt64 32 &&& 63)) ||| ((Int32.toInt64 (xs ((nI j) + 2).toNatClampNeg)) &&& (4294967295))) (xs ((nI j) + 3).toNatClampNeg)
  refine omap h2 (fun q2 hq2 he2 => ?_)
  obtain ⟨rfl, rfl⟩ := Prod.mk.inj he2
  clear h2 he2
  refine omap h1 (fun q hq he => ?_)
  obtain ⟨rfl, rfl⟩ := Prod.mk.inj he
  clear h1 he
  refine g_aln cx 1 dL_law_160 rfl ?_
  refine g_aln cx 0 dL_law_161 rfl ?_
  refine g_iln cx 3 dL_law_162 rfl ?_
  refine g_ic cx dL_law_163 k_ic1 ?_
  refine g_iadd cx dL_law_164 ?_
  refine g_sld cx hX hbl (Nat.not_le.mpr hbl) (sc_in (c := 1) hj hL (by decide)) dL_law_165 ?_
  refine g_i2l cx dL_law_166 ?_
  refine g_bp cx dL_law_167 k_bp32 ?_
  refine g_lshl cx dL_law_169 ?_
  refine g_aln cx 0 dL_law_170 rfl ?_
  refine g_iln cx 3 dL_law_171 rfl ?_
  refine g_ic cx dL_law_172 k_ic2 ?_
  refine g_iadd cx dL_law_173 ?_
  refine g_sld cx hX hbl (Nat.not_le.mpr hbl) (sc_in (c := 2) hj hL (by decide)) dL_law_174 ?_
  refine g_i2l cx dL_law_175 ?_
  refine g_ldc2 cx q6_125 dL_law_176 ?_
  refine g_land cx dL_law_179 ?_
  refine g_lor cx dL_law_180 ?_
  refine g_aln cx 0 dL_law_181 rfl ?_
  refine g_iln cx 3 dL_law_182 rfl ?_
  refine g_ic cx dL_law_183 k_ic3 ?_
  refine g_iadd cx dL_law_184 ?_
  refine g_sld cx hX hbl (Nat.not_le.mpr hbl) (sc_in (c := 3) hj hL (by decide)) dL_law_185 ?_
  refine g_callVGi (gs' := [gX11 (u 0) cB cI cJ cZ (u 1 0) (u 2 0) (u 3 0) (u 4 0) (u 5 0) (u 6 0) (u 8 0) (u 9 0) (.ref (u 10 0)) (.ref (u 15 0)) st.1, gX8 (u 1) cB cI cJ cZ q.2, gX9 (u 2) cB cI cJ cZ st.2.2.1, gX4 (u 3) cB cI cJ cZ st.2.2.2.1, gX3 (u 4) cB cI cJ cZ st.2.2.2.2.1, gX2 (u 5) cB cI cJ cZ st.2.2.2.2.2.1, gX0 (u 6) cB cI cJ cZ (u 7 0) tv st.2.2.2.2.2.2.1, gX4 (u 7) cB cI cJ cZ st.2.2.2.2.2.2.2.1, gX4 (u 8) cB cI cJ cZ st.2.2.2.2.2.2.2.2.1, gX4 (u 9) cB cI cJ cZ st.2.2.2.2.2.2.2.2.2.1, gX7 (u 10) cB cI cJ cZ (u 11 0) (u 12 0) (u 13 0) (u 14 0) st.2.2.2.2.2.2.2.2.2.2.1, gX10 (u 11) cB cI cJ cZ st.2.2.2.2.2.2.2.2.2.2.2.1, gX1 (u 12) cB cI cJ cZ st.2.2.2.2.2.2.2.2.2.2.2.2.1, gX4 (u 13) cB cI cJ cZ st.2.2.2.2.2.2.2.2.2.2.2.2.2.1, gX4 (u 14) cB cI cJ cZ st.2.2.2.2.2.2.2.2.2.2.2.2.2.2.1, gX7 (u 15) cB cI cJ cZ (u 16 0) (u 17 0) (u 18 0) (u 19 0) st.2.2.2.2.2.2.2.2.2.2.2.2.2.2.2.1, gX10 (u 16) cB cI cJ cZ st.2.2.2.2.2.2.2.2.2.2.2.2.2.2.2.2.1, gX1 (u 17) cB cI cJ cZ st.2.2.2.2.2.2.2.2.2.2.2.2.2.2.2.2.2.1, gX4 (u 18) cB cI cJ cZ st.2.2.2.2.2.2.2.2.2.2.2.2.2.2.2.2.2.2.1, gX4 (u 19) cB cI cJ cZ st.2.2.2.2.2.2.2.2.2.2.2.2.2.2.2.2.2.2.2, wX12 mo cB cI cJ cZ ms]) cx lk_RL_15 (c_X11_type l D cB cI cJ cZ (u 0) (u 1) (u 2) (u 3) (u 4) (u 5) (u 6) (u 8) (u 9) (u 10) (u 15) (st.1) (st.2.1) (((Int32.toInt64 (xs ((nI j) + 1).toNatClampNeg)) <<< (Int32.toInt64 32 &&& 63)) ||| ((Int32.toInt64 (xs ((nI j) + 2).toNatClampNeg)) &&& (4294967295))) (xs ((nI j) + 3).toNatClampNeg) q hq) rfl [0, 1] rfl rfl rfl rfl (ci := 9) (q1 := 0) rfl rfl rfl (Nat.le_of_ble_eq_true rfl) ⟨rfl, rfl, Nat.le_of_ble_eq_true rfl, Nat.le_of_ble_eq_true rfl⟩ dL_law_186 ?_
  refine g_pop cx dL_law_189 rfl ?_
  refine g_aln cx 2 dL_law_190 rfl ?_
  refine g_aln cx 0 dL_law_191 rfl ?_
  refine g_iln cx 3 dL_law_192 rfl ?_
  refine g_ic cx dL_law_193 k_ic1 ?_
  refine g_iadd cx dL_law_194 ?_
  refine g_sld cx hX hbl (Nat.not_le.mpr hbl) (sc_in (c := 1) hj hL (by decide)) dL_law_195 ?_
  refine g_i2l cx dL_law_196 ?_
  refine g_bp cx dL_law_197 k_bp32 ?_
  refine g_lshl cx dL_law_199 ?_
  refine g_aln cx 0 dL_law_200 rfl ?_
  refine g_iln cx 3 dL_law_201 rfl ?_
  refine g_ic cx dL_law_202 k_ic2 ?_
  refine g_iadd cx dL_law_203 ?_
  refine g_sld cx hX hbl (Nat.not_le.mpr hbl) (sc_in (c := 2) hj hL (by decide)) dL_law_204 ?_
  refine g_i2l cx dL_law_205 ?_
  refine g_ldc2 cx q6_125 dL_law_206 ?_
  refine g_land cx dL_law_209 ?_
  refine g_lor cx dL_law_210 ?_
  refine g_aln cx 0 dL_law_211 rfl ?_
  refine g_iln cx 3 dL_law_212 rfl ?_
  refine g_ic cx dL_law_213 k_ic3 ?_
  refine g_iadd cx dL_law_214 ?_
  refine g_sld cx hX hbl (Nat.not_le.mpr hbl) (sc_in (c := 3) hj hL (by decide)) dL_law_215 ?_
  refine g_callVGi (gc := [wX12 mo cB cI cJ cZ ms]) (g1 := [wX12 mo cB cI cJ cZ q2.2]) (gs' := [gX11 (u 0) cB cI cJ cZ (u 1 0) (u 2 0) (u 3 0) (u 4 0) (u 5 0) (u 6 0) (u 8 0) (u 9 0) (.ref (u 10 0)) (.ref (u 15 0)) st.1, gX8 (u 1) cB cI cJ cZ q.2, gX9 (u 2) cB cI cJ cZ st.2.2.1, gX4 (u 3) cB cI cJ cZ st.2.2.2.1, gX3 (u 4) cB cI cJ cZ st.2.2.2.2.1, gX2 (u 5) cB cI cJ cZ st.2.2.2.2.2.1, gX0 (u 6) cB cI cJ cZ (u 7 0) tv st.2.2.2.2.2.2.1, gX4 (u 7) cB cI cJ cZ st.2.2.2.2.2.2.2.1, gX4 (u 8) cB cI cJ cZ st.2.2.2.2.2.2.2.2.1, gX4 (u 9) cB cI cJ cZ st.2.2.2.2.2.2.2.2.2.1, gX7 (u 10) cB cI cJ cZ (u 11 0) (u 12 0) (u 13 0) (u 14 0) st.2.2.2.2.2.2.2.2.2.2.1, gX10 (u 11) cB cI cJ cZ st.2.2.2.2.2.2.2.2.2.2.2.1, gX1 (u 12) cB cI cJ cZ st.2.2.2.2.2.2.2.2.2.2.2.2.1, gX4 (u 13) cB cI cJ cZ st.2.2.2.2.2.2.2.2.2.2.2.2.2.1, gX4 (u 14) cB cI cJ cZ st.2.2.2.2.2.2.2.2.2.2.2.2.2.2.1, gX7 (u 15) cB cI cJ cZ (u 16 0) (u 17 0) (u 18 0) (u 19 0) st.2.2.2.2.2.2.2.2.2.2.2.2.2.2.2.1, gX10 (u 16) cB cI cJ cZ st.2.2.2.2.2.2.2.2.2.2.2.2.2.2.2.2.1, gX1 (u 17) cB cI cJ cZ st.2.2.2.2.2.2.2.2.2.2.2.2.2.2.2.2.2.1, gX4 (u 18) cB cI cJ cZ st.2.2.2.2.2.2.2.2.2.2.2.2.2.2.2.2.2.2.1, gX4 (u 19) cB cI cJ cZ st.2.2.2.2.2.2.2.2.2.2.2.2.2.2.2.2.2.2.2, wX12 mo cB cI cJ cZ q2.2]) cx lk_RL_19 (gm_one (c_X12_type l D cB cI cJ cZ mo ms (((Int32.toInt64 (xs ((nI j) + 1).toNatClampNeg)) <<< (Int32.toInt64 32 &&& 63)) ||| ((Int32.toInt64 (xs ((nI j) + 2).toNatClampNeg)) &&& (4294967295))) (xs ((nI j) + 3).toNatClampNeg) q2 hq2)) rfl [20] rfl rfl rfl rfl (ci := 10) (q1 := 0) rfl rfl rfl (Nat.le_of_ble_eq_true rfl) ⟨rfl, rfl, Nat.le_of_ble_eq_true rfl, Nat.le_of_ble_eq_true rfl⟩ dL_law_216 ?_
  refine g_pop cx dL_law_219 rfl ?_
  refine g_goto (tgt := 1104) cx dL_law_220 rfl ?_
  exact kk u mo (st.1, q.2, st.2.2.1, st.2.2.2.1, st.2.2.2.2.1, st.2.2.2.2.2.1, st.2.2.2.2.2.2.1, st.2.2.2.2.2.2.2.1, st.2.2.2.2.2.2.2.2.1, st.2.2.2.2.2.2.2.2.2.1, st.2.2.2.2.2.2.2.2.2.2.1, st.2.2.2.2.2.2.2.2.2.2.2.1, st.2.2.2.2.2.2.2.2.2.2.2.2.1, st.2.2.2.2.2.2.2.2.2.2.2.2.2.1, st.2.2.2.2.2.2.2.2.2.2.2.2.2.2.1, st.2.2.2.2.2.2.2.2.2.2.2.2.2.2.2.1, st.2.2.2.2.2.2.2.2.2.2.2.2.2.2.2.2.1, st.2.2.2.2.2.2.2.2.2.2.2.2.2.2.2.2.2.1, st.2.2.2.2.2.2.2.2.2.2.2.2.2.2.2.2.2.2.1, st.2.2.2.2.2.2.2.2.2.2.2.2.2.2.2.2.2.2.2) tv (q2.2) hJ
set_option maxHeartbeats 4000000 in
set_option maxRecDepth 100000 in
theorem lwc_clear {p : Program} {l : Launch} {e : Env} {s : State} {m : MethodId} {below : List Frame} {meth : Method} {c : Code} {D : gG} {cB cI cJ cZ : ClassId} {b L : Nat} {xs : Nat → Int32} {J2 : SX → SM → Prop} (cx : gX p s m #[Value.ref b] meth c cL_law 4 RL D (tyL cB cI cJ cZ) (fun q => s.heap.size ≤ q)) (hX : va_X b L xs s s.heap) (hbl : b < s.heap.size) {j : Nat} (hj : j + 5 ≤ L) (hL : L ≤ 2560) {u : Nat → Nat → Nat} {st : SX} {tv : Value} {mo : Nat → Nat} {ms : SM} (hs : StepOK J2 st ms) (kk : ∀ (u : Nat → Nat → Nat) (mo : Nat → Nat) (st : SX) (tv : Value) (ms : SM), J2 st ms → gW p l e room_1 s m #[Value.ref b] below meth c D (fun q => s.heap.size ≤ q) 4 (lw_Z below #[Value.ref b] s) 88 2324 (wL cB cI cJ cZ u st tv mo ms).flatten [(0, .ref b), (1, .ref (u 0 0)), (2, .ref (mo 0)), (3, .int (nI j))] 1104 []) : gW p l e room_1 s m #[Value.ref b] below meth c D (fun q => s.heap.size ≤ q) 4 (lw_Z below #[Value.ref b] s) 88 2324 (wL cB cI cJ cZ u st tv mo ms).flatten [(0, .ref b), (1, .ref (u 0 0)), (2, .ref (mo 0)), (3, .int (nI j))] 223 [] := by
  obtain ⟨r, r2, st2, ms2, h1, h2, hJ⟩ := hs.2.1 ()
  refine omap h2 (fun q2 hq2 he2 => ?_)
  obtain ⟨rfl, rfl⟩ := Prod.mk.inj he2
  clear h2 he2
  refine omap h1 (fun q hq he => ?_)
  obtain ⟨rfl, rfl⟩ := Prod.mk.inj he
  clear h1 he
  refine g_aln cx 1 dL_law_223 rfl ?_
  refine g_callVGi (gs' := [gX11 (u 0) cB cI cJ cZ (u 1 0) (u 2 0) (u 3 0) (u 4 0) (u 5 0) (u 6 0) (u 8 0) (u 9 0) (.ref (u 10 0)) (.ref (u 15 0)) st.1, gX8 (u 1) cB cI cJ cZ q.2, gX9 (u 2) cB cI cJ cZ st.2.2.1, gX4 (u 3) cB cI cJ cZ st.2.2.2.1, gX3 (u 4) cB cI cJ cZ st.2.2.2.2.1, gX2 (u 5) cB cI cJ cZ st.2.2.2.2.2.1, gX0 (u 6) cB cI cJ cZ (u 7 0) tv st.2.2.2.2.2.2.1, gX4 (u 7) cB cI cJ cZ st.2.2.2.2.2.2.2.1, gX4 (u 8) cB cI cJ cZ st.2.2.2.2.2.2.2.2.1, gX4 (u 9) cB cI cJ cZ st.2.2.2.2.2.2.2.2.2.1, gX7 (u 10) cB cI cJ cZ (u 11 0) (u 12 0) (u 13 0) (u 14 0) st.2.2.2.2.2.2.2.2.2.2.1, gX10 (u 11) cB cI cJ cZ st.2.2.2.2.2.2.2.2.2.2.2.1, gX1 (u 12) cB cI cJ cZ st.2.2.2.2.2.2.2.2.2.2.2.2.1, gX4 (u 13) cB cI cJ cZ st.2.2.2.2.2.2.2.2.2.2.2.2.2.1, gX4 (u 14) cB cI cJ cZ st.2.2.2.2.2.2.2.2.2.2.2.2.2.2.1, gX7 (u 15) cB cI cJ cZ (u 16 0) (u 17 0) (u 18 0) (u 19 0) st.2.2.2.2.2.2.2.2.2.2.2.2.2.2.2.1, gX10 (u 16) cB cI cJ cZ st.2.2.2.2.2.2.2.2.2.2.2.2.2.2.2.2.1, gX1 (u 17) cB cI cJ cZ st.2.2.2.2.2.2.2.2.2.2.2.2.2.2.2.2.2.1, gX4 (u 18) cB cI cJ cZ st.2.2.2.2.2.2.2.2.2.2.2.2.2.2.2.2.2.2.1, gX4 (u 19) cB cI cJ cZ st.2.2.2.2.2.2.2.2.2.2.2.2.2.2.2.2.2.2.2, wX12 mo cB cI cJ cZ ms]) cx lk_RL_20 (c_X11_clear l D cB cI cJ cZ (u 0) (u 1) (u 2) (u 3) (u 4) (u 5) (u 6) (u 8) (u 9) (u 10) (u 15) (st.1) (st.2.1) q hq) rfl [0, 1] rfl rfl rfl rfl (ci := 9) (q1 := 0) rfl rfl rfl (Nat.le_of_ble_eq_true rfl) ⟨rfl, rfl, Nat.le_of_ble_eq_true rfl, Nat.le_of_ble_eq_true rfl⟩ dL_law_224 ?_
  refine g_pop cx dL_law_227 rfl ?_
  refine g_aln cx 2 dL_law_228 rfl ?_
  refine g_callVGi (gc := [wX12 mo cB cI cJ cZ ms]) (g1 := [wX12 mo cB cI cJ cZ q2.2]) (gs' := [gX11 (u 0) cB cI cJ cZ (u 1 0) (u 2 0) (u 3 0) (u 4 0) (u 5 0) (u 6 0) (u 8 0) (u 9 0) (.ref (u 10 0)) (.ref (u 15 0)) st.1, gX8 (u 1) cB cI cJ cZ q.2, gX9 (u 2) cB cI cJ cZ st.2.2.1, gX4 (u 3) cB cI cJ cZ st.2.2.2.1, gX3 (u 4) cB cI cJ cZ st.2.2.2.2.1, gX2 (u 5) cB cI cJ cZ st.2.2.2.2.2.1, gX0 (u 6) cB cI cJ cZ (u 7 0) tv st.2.2.2.2.2.2.1, gX4 (u 7) cB cI cJ cZ st.2.2.2.2.2.2.2.1, gX4 (u 8) cB cI cJ cZ st.2.2.2.2.2.2.2.2.1, gX4 (u 9) cB cI cJ cZ st.2.2.2.2.2.2.2.2.2.1, gX7 (u 10) cB cI cJ cZ (u 11 0) (u 12 0) (u 13 0) (u 14 0) st.2.2.2.2.2.2.2.2.2.2.1, gX10 (u 11) cB cI cJ cZ st.2.2.2.2.2.2.2.2.2.2.2.1, gX1 (u 12) cB cI cJ cZ st.2.2.2.2.2.2.2.2.2.2.2.2.1, gX4 (u 13) cB cI cJ cZ st.2.2.2.2.2.2.2.2.2.2.2.2.2.1, gX4 (u 14) cB cI cJ cZ st.2.2.2.2.2.2.2.2.2.2.2.2.2.2.1, gX7 (u 15) cB cI cJ cZ (u 16 0) (u 17 0) (u 18 0) (u 19 0) st.2.2.2.2.2.2.2.2.2.2.2.2.2.2.2.1, gX10 (u 16) cB cI cJ cZ st.2.2.2.2.2.2.2.2.2.2.2.2.2.2.2.2.1, gX1 (u 17) cB cI cJ cZ st.2.2.2.2.2.2.2.2.2.2.2.2.2.2.2.2.2.1, gX4 (u 18) cB cI cJ cZ st.2.2.2.2.2.2.2.2.2.2.2.2.2.2.2.2.2.2.1, gX4 (u 19) cB cI cJ cZ st.2.2.2.2.2.2.2.2.2.2.2.2.2.2.2.2.2.2.2, wX12 mo cB cI cJ cZ q2.2]) cx lk_RL_24 (gm_one (c_X12_clear l D cB cI cJ cZ mo ms q2 hq2)) rfl [20] rfl rfl rfl rfl (ci := 10) (q1 := 0) rfl rfl rfl (Nat.le_of_ble_eq_true rfl) ⟨rfl, rfl, Nat.le_of_ble_eq_true rfl, Nat.le_of_ble_eq_true rfl⟩ dL_law_229 ?_
  refine g_pop cx dL_law_232 rfl ?_
  refine g_goto (tgt := 1104) cx dL_law_233 rfl ?_
  exact kk u mo (st.1, q.2, st.2.2.1, st.2.2.2.1, st.2.2.2.2.1, st.2.2.2.2.2.1, st.2.2.2.2.2.2.1, st.2.2.2.2.2.2.2.1, st.2.2.2.2.2.2.2.2.1, st.2.2.2.2.2.2.2.2.2.1, st.2.2.2.2.2.2.2.2.2.2.1, st.2.2.2.2.2.2.2.2.2.2.2.1, st.2.2.2.2.2.2.2.2.2.2.2.2.1, st.2.2.2.2.2.2.2.2.2.2.2.2.2.1, st.2.2.2.2.2.2.2.2.2.2.2.2.2.2.1, st.2.2.2.2.2.2.2.2.2.2.2.2.2.2.2.1, st.2.2.2.2.2.2.2.2.2.2.2.2.2.2.2.2.1, st.2.2.2.2.2.2.2.2.2.2.2.2.2.2.2.2.2.1, st.2.2.2.2.2.2.2.2.2.2.2.2.2.2.2.2.2.2.1, st.2.2.2.2.2.2.2.2.2.2.2.2.2.2.2.2.2.2.2) tv (q2.2) hJ
set_option maxHeartbeats 4000000 in
set_option maxRecDepth 100000 in
theorem lwc_read {p : Program} {l : Launch} {e : Env} {s : State} {m : MethodId} {below : List Frame} {meth : Method} {c : Code} {D : gG} {cB cI cJ cZ : ClassId} {b L : Nat} {xs : Nat → Int32} {J2 : SX → SM → Prop} (cx : gX p s m #[Value.ref b] meth c cL_law 4 RL D (tyL cB cI cJ cZ) (fun q => s.heap.size ≤ q)) (hX : va_X b L xs s s.heap) (hbl : b < s.heap.size) {j : Nat} (hj : j + 5 ≤ L) (hL : L ≤ 2560) {u : Nat → Nat → Nat} {st : SX} {tv : Value} {mo : Nat → Nat} {ms : SM} (hs : StepOK J2 st ms) (kk : ∀ (u : Nat → Nat → Nat) (mo : Nat → Nat) (st : SX) (tv : Value) (ms : SM), J2 st ms → gW p l e room_1 s m #[Value.ref b] below meth c D (fun q => s.heap.size ≤ q) 4 (lw_Z below #[Value.ref b] s) 88 2324 (wL cB cI cJ cZ u st tv mo ms).flatten [(0, .ref b), (1, .ref (u 0 0)), (2, .ref (mo 0)), (3, .int (nI j))] 1104 []) : gW p l e room_1 s m #[Value.ref b] below meth c D (fun q => s.heap.size ≤ q) 4 (lw_Z below #[Value.ref b] s) 88 2324 (wL cB cI cJ cZ u st tv mo ms).flatten [(0, .ref b), (1, .ref (u 0 0)), (2, .ref (mo 0)), (3, .int (nI j))] 236 [] := by
  obtain ⟨r, r2, st2, ms2, h1, h2, hJ⟩ := hs.2.2.1 ()
  refine omap h2 (fun q2 hq2 he2 => ?_)
  obtain ⟨rfl, rfl⟩ := Prod.mk.inj he2
  clear h2 he2
  unfold X_read at h1
  split at h1
  · rename_i q hq
    obtain ⟨rfl, rfl⟩ := Prod.mk.inj (Option.some.inj h1)
    clear h1
    refine g_aln cx 1 dL_law_236 rfl ?_
    refine g_callVGi (gs' := [gX11 (u 0) cB cI cJ cZ (u 1 0) (u 2 0) (u 3 0) (u 4 0) (u 5 0) (u 6 0) (u 8 0) (u 9 0) (.ref (u 10 0)) (.ref (u 15 0)) q.2.1, gX8 (u 1) cB cI cJ cZ q.2.2.2.1, gX9 (u 2) cB cI cJ cZ st.2.2.1, gX4 (u 3) cB cI cJ cZ st.2.2.2.1, gX3 (u 4) cB cI cJ cZ st.2.2.2.2.1, gX2 (u 5) cB cI cJ cZ st.2.2.2.2.2.1, gX0 (u 6) cB cI cJ cZ (u 7 0) tv st.2.2.2.2.2.2.1, gX4 (u 7) cB cI cJ cZ st.2.2.2.2.2.2.2.1, gX4 (u 8) cB cI cJ cZ st.2.2.2.2.2.2.2.2.1, gX4 (u 9) cB cI cJ cZ st.2.2.2.2.2.2.2.2.2.1, gX7 (u 10) cB cI cJ cZ (u 11 0) (u 12 0) (u 13 0) (u 14 0) st.2.2.2.2.2.2.2.2.2.2.1, gX10 (u 11) cB cI cJ cZ st.2.2.2.2.2.2.2.2.2.2.2.1, gX1 (u 12) cB cI cJ cZ st.2.2.2.2.2.2.2.2.2.2.2.2.1, gX4 (u 13) cB cI cJ cZ st.2.2.2.2.2.2.2.2.2.2.2.2.2.1, gX4 (u 14) cB cI cJ cZ st.2.2.2.2.2.2.2.2.2.2.2.2.2.2.1, gX7 (u 15) cB cI cJ cZ (u 16 0) (u 17 0) (u 18 0) (u 19 0) q.2.2.1, gX10 (u 16) cB cI cJ cZ q.2.2.2.2.2.2.2, gX1 (u 17) cB cI cJ cZ q.2.2.2.2.1, gX4 (u 18) cB cI cJ cZ q.2.2.2.2.2.1, gX4 (u 19) cB cI cJ cZ q.2.2.2.2.2.2.1, wX12 mo cB cI cJ cZ ms]) cx lk_RL_25 (c_X11_read_0 l D cB cI cJ cZ (u 0) (u 15) (u 1) (u 17) (u 18) (u 19) (u 16) (u 2) (u 3) (u 4) (u 5) (u 6) (u 8) (u 9) (u 10) (st.1) (st.2.2.2.2.2.2.2.2.2.2.2.2.2.2.2.1) (st.2.1) (st.2.2.2.2.2.2.2.2.2.2.2.2.2.2.2.2.2.1) (st.2.2.2.2.2.2.2.2.2.2.2.2.2.2.2.2.2.2.1) (st.2.2.2.2.2.2.2.2.2.2.2.2.2.2.2.2.2.2.2) (st.2.2.2.2.2.2.2.2.2.2.2.2.2.2.2.2.1) q hq) rfl [0, 15, 1, 17, 18, 19, 16] rfl rfl rfl rfl (ci := 9) (q1 := 0) rfl rfl rfl (Nat.le_of_ble_eq_true rfl) ⟨rfl, rfl, Nat.le_of_ble_eq_true rfl, Nat.le_of_ble_eq_true rfl⟩ dL_law_237 ?_
    refine g_pop cx dL_law_240 rfl ?_
    refine g_aln cx 2 dL_law_241 rfl ?_
    refine g_callVGi (gc := [wX12 mo cB cI cJ cZ ms]) (g1 := [wX12 mo cB cI cJ cZ q2.2]) (gs' := [gX11 (u 0) cB cI cJ cZ (u 1 0) (u 2 0) (u 3 0) (u 4 0) (u 5 0) (u 6 0) (u 8 0) (u 9 0) (.ref (u 10 0)) (.ref (u 15 0)) q.2.1, gX8 (u 1) cB cI cJ cZ q.2.2.2.1, gX9 (u 2) cB cI cJ cZ st.2.2.1, gX4 (u 3) cB cI cJ cZ st.2.2.2.1, gX3 (u 4) cB cI cJ cZ st.2.2.2.2.1, gX2 (u 5) cB cI cJ cZ st.2.2.2.2.2.1, gX0 (u 6) cB cI cJ cZ (u 7 0) tv st.2.2.2.2.2.2.1, gX4 (u 7) cB cI cJ cZ st.2.2.2.2.2.2.2.1, gX4 (u 8) cB cI cJ cZ st.2.2.2.2.2.2.2.2.1, gX4 (u 9) cB cI cJ cZ st.2.2.2.2.2.2.2.2.2.1, gX7 (u 10) cB cI cJ cZ (u 11 0) (u 12 0) (u 13 0) (u 14 0) st.2.2.2.2.2.2.2.2.2.2.1, gX10 (u 11) cB cI cJ cZ st.2.2.2.2.2.2.2.2.2.2.2.1, gX1 (u 12) cB cI cJ cZ st.2.2.2.2.2.2.2.2.2.2.2.2.1, gX4 (u 13) cB cI cJ cZ st.2.2.2.2.2.2.2.2.2.2.2.2.2.1, gX4 (u 14) cB cI cJ cZ st.2.2.2.2.2.2.2.2.2.2.2.2.2.2.1, gX7 (u 15) cB cI cJ cZ (u 16 0) (u 17 0) (u 18 0) (u 19 0) q.2.2.1, gX10 (u 16) cB cI cJ cZ q.2.2.2.2.2.2.2, gX1 (u 17) cB cI cJ cZ q.2.2.2.2.1, gX4 (u 18) cB cI cJ cZ q.2.2.2.2.2.1, gX4 (u 19) cB cI cJ cZ q.2.2.2.2.2.2.1, wX12 mo cB cI cJ cZ q2.2]) cx lk_RL_28 (gm_one (c_X12_read l D cB cI cJ cZ mo ms q2 hq2)) rfl [20] rfl rfl rfl rfl (ci := 10) (q1 := 0) rfl rfl rfl (Nat.le_of_ble_eq_true rfl) ⟨rfl, rfl, Nat.le_of_ble_eq_true rfl, Nat.le_of_ble_eq_true rfl⟩ dL_law_242 ?_
    refine g_pop cx dL_law_245 rfl ?_
    refine g_goto (tgt := 1104) cx dL_law_246 rfl ?_
    exact kk u mo (q.2.1, q.2.2.2.1, st.2.2.1, st.2.2.2.1, st.2.2.2.2.1, st.2.2.2.2.2.1, st.2.2.2.2.2.2.1, st.2.2.2.2.2.2.2.1, st.2.2.2.2.2.2.2.2.1, st.2.2.2.2.2.2.2.2.2.1, st.2.2.2.2.2.2.2.2.2.2.1, st.2.2.2.2.2.2.2.2.2.2.2.1, st.2.2.2.2.2.2.2.2.2.2.2.2.1, st.2.2.2.2.2.2.2.2.2.2.2.2.2.1, st.2.2.2.2.2.2.2.2.2.2.2.2.2.2.1, q.2.2.1, q.2.2.2.2.2.2.2, q.2.2.2.2.1, q.2.2.2.2.2.1, q.2.2.2.2.2.2.1) tv (q2.2) hJ
  · refine omap h1 (fun q hq he => ?_)
    obtain ⟨rfl, rfl⟩ := Prod.mk.inj he
    clear h1 he
    refine g_aln cx 1 dL_law_236 rfl ?_
    refine g_callVGi (gs' := [gX11 (u 0) cB cI cJ cZ (u 1 0) (u 2 0) (u 3 0) (u 4 0) (u 5 0) (u 6 0) (u 8 0) (u 9 0) (.ref (u 15 0)) (.ref (u 10 0)) q.2.1, gX8 (u 1) cB cI cJ cZ q.2.2.2.1, gX9 (u 2) cB cI cJ cZ st.2.2.1, gX4 (u 3) cB cI cJ cZ st.2.2.2.1, gX3 (u 4) cB cI cJ cZ st.2.2.2.2.1, gX2 (u 5) cB cI cJ cZ st.2.2.2.2.2.1, gX0 (u 6) cB cI cJ cZ (u 7 0) tv st.2.2.2.2.2.2.1, gX4 (u 7) cB cI cJ cZ st.2.2.2.2.2.2.2.1, gX4 (u 8) cB cI cJ cZ st.2.2.2.2.2.2.2.2.1, gX4 (u 9) cB cI cJ cZ st.2.2.2.2.2.2.2.2.2.1, gX7 (u 10) cB cI cJ cZ (u 11 0) (u 12 0) (u 13 0) (u 14 0) st.2.2.2.2.2.2.2.2.2.2.1, gX10 (u 11) cB cI cJ cZ st.2.2.2.2.2.2.2.2.2.2.2.1, gX1 (u 12) cB cI cJ cZ st.2.2.2.2.2.2.2.2.2.2.2.2.1, gX4 (u 13) cB cI cJ cZ st.2.2.2.2.2.2.2.2.2.2.2.2.2.1, gX4 (u 14) cB cI cJ cZ st.2.2.2.2.2.2.2.2.2.2.2.2.2.2.1, gX7 (u 15) cB cI cJ cZ (u 16 0) (u 17 0) (u 18 0) (u 19 0) q.2.2.1, gX10 (u 16) cB cI cJ cZ q.2.2.2.2.2.2.2, gX1 (u 17) cB cI cJ cZ q.2.2.2.2.1, gX4 (u 18) cB cI cJ cZ q.2.2.2.2.2.1, gX4 (u 19) cB cI cJ cZ q.2.2.2.2.2.2.1, wX12 mo cB cI cJ cZ ms]) cx lk_RL_25 (c_X11_read_1 l D cB cI cJ cZ (u 0) (u 15) (u 1) (u 17) (u 18) (u 19) (u 16) (u 2) (u 3) (u 4) (u 5) (u 6) (u 8) (u 9) (u 10) (st.1) (st.2.2.2.2.2.2.2.2.2.2.2.2.2.2.2.1) (st.2.1) (st.2.2.2.2.2.2.2.2.2.2.2.2.2.2.2.2.2.1) (st.2.2.2.2.2.2.2.2.2.2.2.2.2.2.2.2.2.2.1) (st.2.2.2.2.2.2.2.2.2.2.2.2.2.2.2.2.2.2.2) (st.2.2.2.2.2.2.2.2.2.2.2.2.2.2.2.2.1) q hq) rfl [0, 15, 1, 17, 18, 19, 16] rfl rfl rfl rfl (ci := 9) (q1 := 0) rfl rfl rfl (Nat.le_of_ble_eq_true rfl) ⟨rfl, rfl, Nat.le_of_ble_eq_true rfl, Nat.le_of_ble_eq_true rfl⟩ dL_law_237 ?_
    refine g_perm (gs2 := [gX11 ((fun k => if k < 10 then u k else if k < 15 then u (k + 5) else if k < 20 then u (k - 5) else u k) 0) cB cI cJ cZ ((fun k => if k < 10 then u k else if k < 15 then u (k + 5) else if k < 20 then u (k - 5) else u k) 1 0) ((fun k => if k < 10 then u k else if k < 15 then u (k + 5) else if k < 20 then u (k - 5) else u k) 2 0) ((fun k => if k < 10 then u k else if k < 15 then u (k + 5) else if k < 20 then u (k - 5) else u k) 3 0) ((fun k => if k < 10 then u k else if k < 15 then u (k + 5) else if k < 20 then u (k - 5) else u k) 4 0) ((fun k => if k < 10 then u k else if k < 15 then u (k + 5) else if k < 20 then u (k - 5) else u k) 5 0) ((fun k => if k < 10 then u k else if k < 15 then u (k + 5) else if k < 20 then u (k - 5) else u k) 6 0) ((fun k => if k < 10 then u k else if k < 15 then u (k + 5) else if k < 20 then u (k - 5) else u k) 8 0) ((fun k => if k < 10 then u k else if k < 15 then u (k + 5) else if k < 20 then u (k - 5) else u k) 9 0) (.ref ((fun k => if k < 10 then u k else if k < 15 then u (k + 5) else if k < 20 then u (k - 5) else u k) 10 0)) (.ref ((fun k => if k < 10 then u k else if k < 15 then u (k + 5) else if k < 20 then u (k - 5) else u k) 15 0)) q.2.1, gX8 ((fun k => if k < 10 then u k else if k < 15 then u (k + 5) else if k < 20 then u (k - 5) else u k) 1) cB cI cJ cZ q.2.2.2.1, gX9 ((fun k => if k < 10 then u k else if k < 15 then u (k + 5) else if k < 20 then u (k - 5) else u k) 2) cB cI cJ cZ st.2.2.1, gX4 ((fun k => if k < 10 then u k else if k < 15 then u (k + 5) else if k < 20 then u (k - 5) else u k) 3) cB cI cJ cZ st.2.2.2.1, gX3 ((fun k => if k < 10 then u k else if k < 15 then u (k + 5) else if k < 20 then u (k - 5) else u k) 4) cB cI cJ cZ st.2.2.2.2.1, gX2 ((fun k => if k < 10 then u k else if k < 15 then u (k + 5) else if k < 20 then u (k - 5) else u k) 5) cB cI cJ cZ st.2.2.2.2.2.1, gX0 ((fun k => if k < 10 then u k else if k < 15 then u (k + 5) else if k < 20 then u (k - 5) else u k) 6) cB cI cJ cZ ((fun k => if k < 10 then u k else if k < 15 then u (k + 5) else if k < 20 then u (k - 5) else u k) 7 0) tv st.2.2.2.2.2.2.1, gX4 ((fun k => if k < 10 then u k else if k < 15 then u (k + 5) else if k < 20 then u (k - 5) else u k) 7) cB cI cJ cZ st.2.2.2.2.2.2.2.1, gX4 ((fun k => if k < 10 then u k else if k < 15 then u (k + 5) else if k < 20 then u (k - 5) else u k) 8) cB cI cJ cZ st.2.2.2.2.2.2.2.2.1, gX4 ((fun k => if k < 10 then u k else if k < 15 then u (k + 5) else if k < 20 then u (k - 5) else u k) 9) cB cI cJ cZ st.2.2.2.2.2.2.2.2.2.1, gX7 ((fun k => if k < 10 then u k else if k < 15 then u (k + 5) else if k < 20 then u (k - 5) else u k) 10) cB cI cJ cZ ((fun k => if k < 10 then u k else if k < 15 then u (k + 5) else if k < 20 then u (k - 5) else u k) 11 0) ((fun k => if k < 10 then u k else if k < 15 then u (k + 5) else if k < 20 then u (k - 5) else u k) 12 0) ((fun k => if k < 10 then u k else if k < 15 then u (k + 5) else if k < 20 then u (k - 5) else u k) 13 0) ((fun k => if k < 10 then u k else if k < 15 then u (k + 5) else if k < 20 then u (k - 5) else u k) 14 0) q.2.2.1, gX10 ((fun k => if k < 10 then u k else if k < 15 then u (k + 5) else if k < 20 then u (k - 5) else u k) 11) cB cI cJ cZ q.2.2.2.2.2.2.2, gX1 ((fun k => if k < 10 then u k else if k < 15 then u (k + 5) else if k < 20 then u (k - 5) else u k) 12) cB cI cJ cZ q.2.2.2.2.1, gX4 ((fun k => if k < 10 then u k else if k < 15 then u (k + 5) else if k < 20 then u (k - 5) else u k) 13) cB cI cJ cZ q.2.2.2.2.2.1, gX4 ((fun k => if k < 10 then u k else if k < 15 then u (k + 5) else if k < 20 then u (k - 5) else u k) 14) cB cI cJ cZ q.2.2.2.2.2.2.1, gX7 ((fun k => if k < 10 then u k else if k < 15 then u (k + 5) else if k < 20 then u (k - 5) else u k) 15) cB cI cJ cZ ((fun k => if k < 10 then u k else if k < 15 then u (k + 5) else if k < 20 then u (k - 5) else u k) 16 0) ((fun k => if k < 10 then u k else if k < 15 then u (k + 5) else if k < 20 then u (k - 5) else u k) 17 0) ((fun k => if k < 10 then u k else if k < 15 then u (k + 5) else if k < 20 then u (k - 5) else u k) 18 0) ((fun k => if k < 10 then u k else if k < 15 then u (k + 5) else if k < 20 then u (k - 5) else u k) 19 0) st.2.2.2.2.2.2.2.2.2.2.1, gX10 ((fun k => if k < 10 then u k else if k < 15 then u (k + 5) else if k < 20 then u (k - 5) else u k) 16) cB cI cJ cZ st.2.2.2.2.2.2.2.2.2.2.2.1, gX1 ((fun k => if k < 10 then u k else if k < 15 then u (k + 5) else if k < 20 then u (k - 5) else u k) 17) cB cI cJ cZ st.2.2.2.2.2.2.2.2.2.2.2.2.1, gX4 ((fun k => if k < 10 then u k else if k < 15 then u (k + 5) else if k < 20 then u (k - 5) else u k) 18) cB cI cJ cZ st.2.2.2.2.2.2.2.2.2.2.2.2.2.1, gX4 ((fun k => if k < 10 then u k else if k < 15 then u (k + 5) else if k < 20 then u (k - 5) else u k) 19) cB cI cJ cZ st.2.2.2.2.2.2.2.2.2.2.2.2.2.2.1, wX12 mo cB cI cJ cZ ms]) [0, 1, 2, 3, 4, 5, 6, 7, 8, 9, 15, 16, 17, 18, 19, 10, 11, 12, 13, 14, 20] rfl rfl ?_
    refine g_pop cx dL_law_240 rfl ?_
    refine g_aln cx 2 dL_law_241 rfl ?_
    refine g_callVGi (gc := [wX12 mo cB cI cJ cZ ms]) (g1 := [wX12 mo cB cI cJ cZ q2.2]) (gs' := [gX11 ((fun k => if k < 10 then u k else if k < 15 then u (k + 5) else if k < 20 then u (k - 5) else u k) 0) cB cI cJ cZ ((fun k => if k < 10 then u k else if k < 15 then u (k + 5) else if k < 20 then u (k - 5) else u k) 1 0) ((fun k => if k < 10 then u k else if k < 15 then u (k + 5) else if k < 20 then u (k - 5) else u k) 2 0) ((fun k => if k < 10 then u k else if k < 15 then u (k + 5) else if k < 20 then u (k - 5) else u k) 3 0) ((fun k => if k < 10 then u k else if k < 15 then u (k + 5) else if k < 20 then u (k - 5) else u k) 4 0) ((fun k => if k < 10 then u k else if k < 15 then u (k + 5) else if k < 20 then u (k - 5) else u k) 5 0) ((fun k => if k < 10 then u k else if k < 15 then u (k + 5) else if k < 20 then u (k - 5) else u k) 6 0) ((fun k => if k < 10 then u k else if k < 15 then u (k + 5) else if k < 20 then u (k - 5) else u k) 8 0) ((fun k => if k < 10 then u k else if k < 15 then u (k + 5) else if k < 20 then u (k - 5) else u k) 9 0) (.ref ((fun k => if k < 10 then u k else if k < 15 then u (k + 5) else if k < 20 then u (k - 5) else u k) 10 0)) (.ref ((fun k => if k < 10 then u k else if k < 15 then u (k + 5) else if k < 20 then u (k - 5) else u k) 15 0)) q.2.1, gX8 ((fun k => if k < 10 then u k else if k < 15 then u (k + 5) else if k < 20 then u (k - 5) else u k) 1) cB cI cJ cZ q.2.2.2.1, gX9 ((fun k => if k < 10 then u k else if k < 15 then u (k + 5) else if k < 20 then u (k - 5) else u k) 2) cB cI cJ cZ st.2.2.1, gX4 ((fun k => if k < 10 then u k else if k < 15 then u (k + 5) else if k < 20 then u (k - 5) else u k) 3) cB cI cJ cZ st.2.2.2.1, gX3 ((fun k => if k < 10 then u k else if k < 15 then u (k + 5) else if k < 20 then u (k - 5) else u k) 4) cB cI cJ cZ st.2.2.2.2.1, gX2 ((fun k => if k < 10 then u k else if k < 15 then u (k + 5) else if k < 20 then u (k - 5) else u k) 5) cB cI cJ cZ st.2.2.2.2.2.1, gX0 ((fun k => if k < 10 then u k else if k < 15 then u (k + 5) else if k < 20 then u (k - 5) else u k) 6) cB cI cJ cZ ((fun k => if k < 10 then u k else if k < 15 then u (k + 5) else if k < 20 then u (k - 5) else u k) 7 0) tv st.2.2.2.2.2.2.1, gX4 ((fun k => if k < 10 then u k else if k < 15 then u (k + 5) else if k < 20 then u (k - 5) else u k) 7) cB cI cJ cZ st.2.2.2.2.2.2.2.1, gX4 ((fun k => if k < 10 then u k else if k < 15 then u (k + 5) else if k < 20 then u (k - 5) else u k) 8) cB cI cJ cZ st.2.2.2.2.2.2.2.2.1, gX4 ((fun k => if k < 10 then u k else if k < 15 then u (k + 5) else if k < 20 then u (k - 5) else u k) 9) cB cI cJ cZ st.2.2.2.2.2.2.2.2.2.1, gX7 ((fun k => if k < 10 then u k else if k < 15 then u (k + 5) else if k < 20 then u (k - 5) else u k) 10) cB cI cJ cZ ((fun k => if k < 10 then u k else if k < 15 then u (k + 5) else if k < 20 then u (k - 5) else u k) 11 0) ((fun k => if k < 10 then u k else if k < 15 then u (k + 5) else if k < 20 then u (k - 5) else u k) 12 0) ((fun k => if k < 10 then u k else if k < 15 then u (k + 5) else if k < 20 then u (k - 5) else u k) 13 0) ((fun k => if k < 10 then u k else if k < 15 then u (k + 5) else if k < 20 then u (k - 5) else u k) 14 0) q.2.2.1, gX10 ((fun k => if k < 10 then u k else if k < 15 then u (k + 5) else if k < 20 then u (k - 5) else u k) 11) cB cI cJ cZ q.2.2.2.2.2.2.2, gX1 ((fun k => if k < 10 then u k else if k < 15 then u (k + 5) else if k < 20 then u (k - 5) else u k) 12) cB cI cJ cZ q.2.2.2.2.1, gX4 ((fun k => if k < 10 then u k else if k < 15 then u (k + 5) else if k < 20 then u (k - 5) else u k) 13) cB cI cJ cZ q.2.2.2.2.2.1, gX4 ((fun k => if k < 10 then u k else if k < 15 then u (k + 5) else if k < 20 then u (k - 5) else u k) 14) cB cI cJ cZ q.2.2.2.2.2.2.1, gX7 ((fun k => if k < 10 then u k else if k < 15 then u (k + 5) else if k < 20 then u (k - 5) else u k) 15) cB cI cJ cZ ((fun k => if k < 10 then u k else if k < 15 then u (k + 5) else if k < 20 then u (k - 5) else u k) 16 0) ((fun k => if k < 10 then u k else if k < 15 then u (k + 5) else if k < 20 then u (k - 5) else u k) 17 0) ((fun k => if k < 10 then u k else if k < 15 then u (k + 5) else if k < 20 then u (k - 5) else u k) 18 0) ((fun k => if k < 10 then u k else if k < 15 then u (k + 5) else if k < 20 then u (k - 5) else u k) 19 0) st.2.2.2.2.2.2.2.2.2.2.1, gX10 ((fun k => if k < 10 then u k else if k < 15 then u (k + 5) else if k < 20 then u (k - 5) else u k) 16) cB cI cJ cZ st.2.2.2.2.2.2.2.2.2.2.2.1, gX1 ((fun k => if k < 10 then u k else if k < 15 then u (k + 5) else if k < 20 then u (k - 5) else u k) 17) cB cI cJ cZ st.2.2.2.2.2.2.2.2.2.2.2.2.1, gX4 ((fun k => if k < 10 then u k else if k < 15 then u (k + 5) else if k < 20 then u (k - 5) else u k) 18) cB cI cJ cZ st.2.2.2.2.2.2.2.2.2.2.2.2.2.1, gX4 ((fun k => if k < 10 then u k else if k < 15 then u (k + 5) else if k < 20 then u (k - 5) else u k) 19) cB cI cJ cZ st.2.2.2.2.2.2.2.2.2.2.2.2.2.2.1, wX12 mo cB cI cJ cZ q2.2]) cx lk_RL_28 (gm_one (c_X12_read l D cB cI cJ cZ mo ms q2 hq2)) rfl [20] rfl rfl rfl rfl (ci := 10) (q1 := 0) rfl rfl rfl (Nat.le_of_ble_eq_true rfl) ⟨rfl, rfl, Nat.le_of_ble_eq_true rfl, Nat.le_of_ble_eq_true rfl⟩ dL_law_242 ?_
    refine g_pop cx dL_law_245 rfl ?_
    refine g_goto (tgt := 1104) cx dL_law_246 rfl ?_
    exact kk (fun k => if k < 10 then u k else if k < 15 then u (k + 5) else if k < 20 then u (k - 5) else u k) mo (q.2.1, q.2.2.2.1, st.2.2.1, st.2.2.2.1, st.2.2.2.2.1, st.2.2.2.2.2.1, st.2.2.2.2.2.2.1, st.2.2.2.2.2.2.2.1, st.2.2.2.2.2.2.2.2.1, st.2.2.2.2.2.2.2.2.2.1, q.2.2.1, q.2.2.2.2.2.2.2, q.2.2.2.2.1, q.2.2.2.2.2.1, q.2.2.2.2.2.2.1, st.2.2.2.2.2.2.2.2.2.2.1, st.2.2.2.2.2.2.2.2.2.2.2.1, st.2.2.2.2.2.2.2.2.2.2.2.2.1, st.2.2.2.2.2.2.2.2.2.2.2.2.2.1, st.2.2.2.2.2.2.2.2.2.2.2.2.2.2.1) tv (q2.2) hJ
set_option maxHeartbeats 4000000 in
set_option maxRecDepth 100000 in
theorem lwc_word {p : Program} {l : Launch} {e : Env} {s : State} {m : MethodId} {below : List Frame} {meth : Method} {c : Code} {D : gG} {cB cI cJ cZ : ClassId} {b L : Nat} {xs : Nat → Int32} {J2 : SX → SM → Prop} (cx : gX p s m #[Value.ref b] meth c cL_law 4 RL D (tyL cB cI cJ cZ) (fun q => s.heap.size ≤ q)) (hX : va_X b L xs s s.heap) (hbl : b < s.heap.size) {j : Nat} (hj : j + 5 ≤ L) (hL : L ≤ 2560) {u : Nat → Nat → Nat} {st : SX} {tv : Value} {mo : Nat → Nat} {ms : SM} (hs : StepOK J2 st ms) (kk : ∀ (u : Nat → Nat → Nat) (mo : Nat → Nat) (st : SX) (tv : Value) (ms : SM), J2 st ms → gW p l e room_1 s m #[Value.ref b] below meth c D (fun q => s.heap.size ≤ q) 4 (lw_Z below #[Value.ref b] s) 88 2324 (wL cB cI cJ cZ u st tv mo ms).flatten [(0, .ref b), (1, .ref (u 0 0)), (2, .ref (mo 0)), (3, .int (nI j))] 1104 []) : gW p l e room_1 s m #[Value.ref b] below meth c D (fun q => s.heap.size ≤ q) 4 (lw_Z below #[Value.ref b] s) 88 2324 (wL cB cI cJ cZ u st tv mo ms).flatten [(0, .ref b), (1, .ref (u 0 0)), (2, .ref (mo 0)), (3, .int (nI j))] 249 [] := by
  obtain ⟨r, r2, st2, ms2, h1, h2, hJ⟩ := hs.2.2.2.1 (xs ((nI j) + 1).toNatClampNeg) (xs ((nI j) + 2).toNatClampNeg)
  refine omap h2 (fun q2 hq2 he2 => ?_)
  obtain ⟨rfl, rfl⟩ := Prod.mk.inj he2
  clear h2 he2
  refine omap h1 (fun q hq he => ?_)
  obtain ⟨rfl, rfl⟩ := Prod.mk.inj he
  clear h1 he
  refine g_aln cx 1 dL_law_249 rfl ?_
  refine g_aln cx 0 dL_law_250 rfl ?_
  refine g_iln cx 3 dL_law_251 rfl ?_
  refine g_ic cx dL_law_252 k_ic1 ?_
  refine g_iadd cx dL_law_253 ?_
  refine g_sld cx hX hbl (Nat.not_le.mpr hbl) (sc_in (c := 1) hj hL (by decide)) dL_law_254 ?_
  refine g_aln cx 0 dL_law_255 rfl ?_
  refine g_iln cx 3 dL_law_256 rfl ?_
  refine g_ic cx dL_law_257 k_ic2 ?_
  refine g_iadd cx dL_law_258 ?_
  refine g_sld cx hX hbl (Nat.not_le.mpr hbl) (sc_in (c := 2) hj hL (by decide)) dL_law_259 ?_
  refine g_callVGiR cx lk_RL_29 (c_X11_word l D cB cI cJ cZ (u 0) (u 10) (u 11) (u 1) (u 2) (u 3) (u 4) (u 5) (u 6) (u 8) (u 9) (u 15) (u 12) (u 13) (u 14) (st.1) (st.2.2.2.2.2.2.2.2.2.2.1) (st.2.2.2.2.2.2.2.2.2.2.2.1) (xs ((nI j) + 1).toNatClampNeg) (xs ((nI j) + 2).toNatClampNeg) q hq) rfl [0, 10, 11] rfl rfl (ci := 9) (q1 := 0) rfl rfl rfl (Nat.le_of_ble_eq_true rfl) ⟨rfl, rfl, Nat.le_of_ble_eq_true rfl, Nat.le_of_ble_eq_true rfl⟩ dL_law_260 ?_
  refine g_pop cx dL_law_263 rfl ?_
  refine g_aln cx 2 dL_law_264 rfl ?_
  refine g_aln cx 0 dL_law_265 rfl ?_
  refine g_iln cx 3 dL_law_266 rfl ?_
  refine g_ic cx dL_law_267 k_ic1 ?_
  refine g_iadd cx dL_law_268 ?_
  refine g_sld cx hX hbl (Nat.not_le.mpr hbl) (sc_in (c := 1) hj hL (by decide)) dL_law_269 ?_
  refine g_aln cx 0 dL_law_270 rfl ?_
  refine g_iln cx 3 dL_law_271 rfl ?_
  refine g_ic cx dL_law_272 k_ic2 ?_
  refine g_iadd cx dL_law_273 ?_
  refine g_sld cx hX hbl (Nat.not_le.mpr hbl) (sc_in (c := 2) hj hL (by decide)) dL_law_274 ?_
  refine g_callVGi (gc := [wX12 mo cB cI cJ cZ ms]) (g1 := [wX12 mo cB cI cJ cZ q2.2]) (gs' := [gX11 (u 0) cB cI cJ cZ (u 1 0) (u 2 0) (u 3 0) (u 4 0) (u 5 0) (u 6 0) (u 8 0) (u 9 0) (.ref (u 10 0)) (.ref (u 15 0)) st.1, gX8 (u 1) cB cI cJ cZ st.2.1, gX9 (u 2) cB cI cJ cZ st.2.2.1, gX4 (u 3) cB cI cJ cZ st.2.2.2.1, gX3 (u 4) cB cI cJ cZ st.2.2.2.2.1, gX2 (u 5) cB cI cJ cZ st.2.2.2.2.2.1, gX0 (u 6) cB cI cJ cZ (u 7 0) tv st.2.2.2.2.2.2.1, gX4 (u 7) cB cI cJ cZ st.2.2.2.2.2.2.2.1, gX4 (u 8) cB cI cJ cZ st.2.2.2.2.2.2.2.2.1, gX4 (u 9) cB cI cJ cZ st.2.2.2.2.2.2.2.2.2.1, gX7 (u 10) cB cI cJ cZ (u 11 0) (u 12 0) (u 13 0) (u 14 0) st.2.2.2.2.2.2.2.2.2.2.1, gX10 (u 11) cB cI cJ cZ st.2.2.2.2.2.2.2.2.2.2.2.1, gX1 (u 12) cB cI cJ cZ st.2.2.2.2.2.2.2.2.2.2.2.2.1, gX4 (u 13) cB cI cJ cZ st.2.2.2.2.2.2.2.2.2.2.2.2.2.1, gX4 (u 14) cB cI cJ cZ st.2.2.2.2.2.2.2.2.2.2.2.2.2.2.1, gX7 (u 15) cB cI cJ cZ (u 16 0) (u 17 0) (u 18 0) (u 19 0) st.2.2.2.2.2.2.2.2.2.2.2.2.2.2.2.1, gX10 (u 16) cB cI cJ cZ st.2.2.2.2.2.2.2.2.2.2.2.2.2.2.2.2.1, gX1 (u 17) cB cI cJ cZ st.2.2.2.2.2.2.2.2.2.2.2.2.2.2.2.2.2.1, gX4 (u 18) cB cI cJ cZ st.2.2.2.2.2.2.2.2.2.2.2.2.2.2.2.2.2.2.1, gX4 (u 19) cB cI cJ cZ st.2.2.2.2.2.2.2.2.2.2.2.2.2.2.2.2.2.2.2, wX12 mo cB cI cJ cZ q2.2]) cx lk_RL_33 (gm_one (c_X12_word l D cB cI cJ cZ mo ms (xs ((nI j) + 1).toNatClampNeg) (xs ((nI j) + 2).toNatClampNeg) q2 hq2)) rfl [20] rfl rfl rfl rfl (ci := 10) (q1 := 0) rfl rfl rfl (Nat.le_of_ble_eq_true rfl) ⟨rfl, rfl, Nat.le_of_ble_eq_true rfl, Nat.le_of_ble_eq_true rfl⟩ dL_law_275 ?_
  refine g_pop cx dL_law_278 rfl ?_
  refine g_goto (tgt := 1104) cx dL_law_279 rfl ?_
  exact kk u mo (st.1, st.2.1, st.2.2.1, st.2.2.2.1, st.2.2.2.2.1, st.2.2.2.2.2.1, st.2.2.2.2.2.2.1, st.2.2.2.2.2.2.2.1, st.2.2.2.2.2.2.2.2.1, st.2.2.2.2.2.2.2.2.2.1, st.2.2.2.2.2.2.2.2.2.2.1, st.2.2.2.2.2.2.2.2.2.2.2.1, st.2.2.2.2.2.2.2.2.2.2.2.2.1, st.2.2.2.2.2.2.2.2.2.2.2.2.2.1, st.2.2.2.2.2.2.2.2.2.2.2.2.2.2.1, st.2.2.2.2.2.2.2.2.2.2.2.2.2.2.2.1, st.2.2.2.2.2.2.2.2.2.2.2.2.2.2.2.2.1, st.2.2.2.2.2.2.2.2.2.2.2.2.2.2.2.2.2.1, st.2.2.2.2.2.2.2.2.2.2.2.2.2.2.2.2.2.2.1, st.2.2.2.2.2.2.2.2.2.2.2.2.2.2.2.2.2.2.2) tv (q2.2) hJ
set_option maxHeartbeats 4000000 in
set_option maxRecDepth 100000 in
theorem lwc_form {p : Program} {l : Launch} {e : Env} {s : State} {m : MethodId} {below : List Frame} {meth : Method} {c : Code} {D : gG} {cB cI cJ cZ : ClassId} {b L : Nat} {xs : Nat → Int32} {J2 : SX → SM → Prop} (cx : gX p s m #[Value.ref b] meth c cL_law 4 RL D (tyL cB cI cJ cZ) (fun q => s.heap.size ≤ q)) (hX : va_X b L xs s s.heap) (hbl : b < s.heap.size) {j : Nat} (hj : j + 5 ≤ L) (hL : L ≤ 2560) {u : Nat → Nat → Nat} {st : SX} {tv : Value} {mo : Nat → Nat} {ms : SM} (hs : StepOK J2 st ms) (kk : ∀ (u : Nat → Nat → Nat) (mo : Nat → Nat) (st : SX) (tv : Value) (ms : SM), J2 st ms → gW p l e room_1 s m #[Value.ref b] below meth c D (fun q => s.heap.size ≤ q) 4 (lw_Z below #[Value.ref b] s) 88 2324 (wL cB cI cJ cZ u st tv mo ms).flatten [(0, .ref b), (1, .ref (u 0 0)), (2, .ref (mo 0)), (3, .int (nI j))] 1104 []) : gW p l e room_1 s m #[Value.ref b] below meth c D (fun q => s.heap.size ≤ q) 4 (lw_Z below #[Value.ref b] s) 88 2324 (wL cB cI cJ cZ u st tv mo ms).flatten [(0, .ref b), (1, .ref (u 0 0)), (2, .ref (mo 0)), (3, .int (nI j))] 282 [] := by
  obtain ⟨r, r2, st2, ms2, h1, h2, hJ⟩ := hs.2.2.2.2.1 (xs ((nI j) + 1).toNatClampNeg) (xs ((nI j) + 2).toNatClampNeg)
  refine omap h2 (fun q2 hq2 he2 => ?_)
  obtain ⟨rfl, rfl⟩ := Prod.mk.inj he2
  clear h2 he2
  refine omap h1 (fun q hq he => ?_)
  obtain ⟨rfl, rfl⟩ := Prod.mk.inj he
  clear h1 he
  refine g_aln cx 1 dL_law_282 rfl ?_
  refine g_aln cx 0 dL_law_283 rfl ?_
  refine g_iln cx 3 dL_law_284 rfl ?_
  refine g_ic cx dL_law_285 k_ic1 ?_
  refine g_iadd cx dL_law_286 ?_
  refine g_sld cx hX hbl (Nat.not_le.mpr hbl) (sc_in (c := 1) hj hL (by decide)) dL_law_287 ?_
  refine g_aln cx 0 dL_law_288 rfl ?_
  refine g_iln cx 3 dL_law_289 rfl ?_
  refine g_ic cx dL_law_290 k_ic2 ?_
  refine g_iadd cx dL_law_291 ?_
  refine g_sld cx hX hbl (Nat.not_le.mpr hbl) (sc_in (c := 2) hj hL (by decide)) dL_law_292 ?_
  refine g_callVGiR cx lk_RL_34 (c_X11_form l D cB cI cJ cZ (u 0) (u 10) (u 12) (u 1) (u 2) (u 3) (u 4) (u 5) (u 6) (u 8) (u 9) (u 15) (u 11) (u 13) (u 14) (st.1) (st.2.2.2.2.2.2.2.2.2.2.1) (st.2.2.2.2.2.2.2.2.2.2.2.2.1) (xs ((nI j) + 1).toNatClampNeg) (xs ((nI j) + 2).toNatClampNeg) q hq) rfl [0, 10, 12] rfl rfl (ci := 9) (q1 := 0) rfl rfl rfl (Nat.le_of_ble_eq_true rfl) ⟨rfl, rfl, Nat.le_of_ble_eq_true rfl, Nat.le_of_ble_eq_true rfl⟩ dL_law_293 ?_
  refine g_pop cx dL_law_296 rfl ?_
  refine g_aln cx 2 dL_law_297 rfl ?_
  refine g_aln cx 0 dL_law_298 rfl ?_
  refine g_iln cx 3 dL_law_299 rfl ?_
  refine g_ic cx dL_law_300 k_ic1 ?_
  refine g_iadd cx dL_law_301 ?_
  refine g_sld cx hX hbl (Nat.not_le.mpr hbl) (sc_in (c := 1) hj hL (by decide)) dL_law_302 ?_
  refine g_aln cx 0 dL_law_303 rfl ?_
  refine g_iln cx 3 dL_law_304 rfl ?_
  refine g_ic cx dL_law_305 k_ic2 ?_
  refine g_iadd cx dL_law_306 ?_
  refine g_sld cx hX hbl (Nat.not_le.mpr hbl) (sc_in (c := 2) hj hL (by decide)) dL_law_307 ?_
  refine g_callVGi (gc := [wX12 mo cB cI cJ cZ ms]) (g1 := [wX12 mo cB cI cJ cZ q2.2]) (gs' := [gX11 (u 0) cB cI cJ cZ (u 1 0) (u 2 0) (u 3 0) (u 4 0) (u 5 0) (u 6 0) (u 8 0) (u 9 0) (.ref (u 10 0)) (.ref (u 15 0)) st.1, gX8 (u 1) cB cI cJ cZ st.2.1, gX9 (u 2) cB cI cJ cZ st.2.2.1, gX4 (u 3) cB cI cJ cZ st.2.2.2.1, gX3 (u 4) cB cI cJ cZ st.2.2.2.2.1, gX2 (u 5) cB cI cJ cZ st.2.2.2.2.2.1, gX0 (u 6) cB cI cJ cZ (u 7 0) tv st.2.2.2.2.2.2.1, gX4 (u 7) cB cI cJ cZ st.2.2.2.2.2.2.2.1, gX4 (u 8) cB cI cJ cZ st.2.2.2.2.2.2.2.2.1, gX4 (u 9) cB cI cJ cZ st.2.2.2.2.2.2.2.2.2.1, gX7 (u 10) cB cI cJ cZ (u 11 0) (u 12 0) (u 13 0) (u 14 0) st.2.2.2.2.2.2.2.2.2.2.1, gX10 (u 11) cB cI cJ cZ st.2.2.2.2.2.2.2.2.2.2.2.1, gX1 (u 12) cB cI cJ cZ st.2.2.2.2.2.2.2.2.2.2.2.2.1, gX4 (u 13) cB cI cJ cZ st.2.2.2.2.2.2.2.2.2.2.2.2.2.1, gX4 (u 14) cB cI cJ cZ st.2.2.2.2.2.2.2.2.2.2.2.2.2.2.1, gX7 (u 15) cB cI cJ cZ (u 16 0) (u 17 0) (u 18 0) (u 19 0) st.2.2.2.2.2.2.2.2.2.2.2.2.2.2.2.1, gX10 (u 16) cB cI cJ cZ st.2.2.2.2.2.2.2.2.2.2.2.2.2.2.2.2.1, gX1 (u 17) cB cI cJ cZ st.2.2.2.2.2.2.2.2.2.2.2.2.2.2.2.2.2.1, gX4 (u 18) cB cI cJ cZ st.2.2.2.2.2.2.2.2.2.2.2.2.2.2.2.2.2.2.1, gX4 (u 19) cB cI cJ cZ st.2.2.2.2.2.2.2.2.2.2.2.2.2.2.2.2.2.2.2, wX12 mo cB cI cJ cZ q2.2]) cx lk_RL_37 (gm_one (c_X12_form l D cB cI cJ cZ mo ms (xs ((nI j) + 1).toNatClampNeg) (xs ((nI j) + 2).toNatClampNeg) q2 hq2)) rfl [20] rfl rfl rfl rfl (ci := 10) (q1 := 0) rfl rfl rfl (Nat.le_of_ble_eq_true rfl) ⟨rfl, rfl, Nat.le_of_ble_eq_true rfl, Nat.le_of_ble_eq_true rfl⟩ dL_law_308 ?_
  refine g_pop cx dL_law_311 rfl ?_
  refine g_goto (tgt := 1104) cx dL_law_312 rfl ?_
  exact kk u mo (st.1, st.2.1, st.2.2.1, st.2.2.2.1, st.2.2.2.2.1, st.2.2.2.2.2.1, st.2.2.2.2.2.2.1, st.2.2.2.2.2.2.2.1, st.2.2.2.2.2.2.2.2.1, st.2.2.2.2.2.2.2.2.2.1, st.2.2.2.2.2.2.2.2.2.2.1, st.2.2.2.2.2.2.2.2.2.2.2.1, st.2.2.2.2.2.2.2.2.2.2.2.2.1, st.2.2.2.2.2.2.2.2.2.2.2.2.2.1, st.2.2.2.2.2.2.2.2.2.2.2.2.2.2.1, st.2.2.2.2.2.2.2.2.2.2.2.2.2.2.2.1, st.2.2.2.2.2.2.2.2.2.2.2.2.2.2.2.2.1, st.2.2.2.2.2.2.2.2.2.2.2.2.2.2.2.2.2.1, st.2.2.2.2.2.2.2.2.2.2.2.2.2.2.2.2.2.2.1, st.2.2.2.2.2.2.2.2.2.2.2.2.2.2.2.2.2.2.2) tv (q2.2) hJ
set_option maxHeartbeats 4000000 in
set_option maxRecDepth 100000 in
theorem lwc_metre {p : Program} {l : Launch} {e : Env} {s : State} {m : MethodId} {below : List Frame} {meth : Method} {c : Code} {D : gG} {cB cI cJ cZ : ClassId} {b L : Nat} {xs : Nat → Int32} {J2 : SX → SM → Prop} (cx : gX p s m #[Value.ref b] meth c cL_law 4 RL D (tyL cB cI cJ cZ) (fun q => s.heap.size ≤ q)) (hX : va_X b L xs s s.heap) (hbl : b < s.heap.size) {j : Nat} (hj : j + 5 ≤ L) (hL : L ≤ 2560) {u : Nat → Nat → Nat} {st : SX} {tv : Value} {mo : Nat → Nat} {ms : SM} (hs : StepOK J2 st ms) (kk : ∀ (u : Nat → Nat → Nat) (mo : Nat → Nat) (st : SX) (tv : Value) (ms : SM), J2 st ms → gW p l e room_1 s m #[Value.ref b] below meth c D (fun q => s.heap.size ≤ q) 4 (lw_Z below #[Value.ref b] s) 88 2324 (wL cB cI cJ cZ u st tv mo ms).flatten [(0, .ref b), (1, .ref (u 0 0)), (2, .ref (mo 0)), (3, .int (nI j))] 1104 []) : gW p l e room_1 s m #[Value.ref b] below meth c D (fun q => s.heap.size ≤ q) 4 (lw_Z below #[Value.ref b] s) 88 2324 (wL cB cI cJ cZ u st tv mo ms).flatten [(0, .ref b), (1, .ref (u 0 0)), (2, .ref (mo 0)), (3, .int (nI j))] 315 [] := by
  obtain ⟨r, r2, st2, ms2, h1, h2, hJ⟩ := hs.2.2.2.2.2.1 (xs ((nI j) + 1).toNatClampNeg) (xs ((nI j) + 2).toNatClampNeg)
  refine omap h2 (fun q2 hq2 he2 => ?_)
  obtain ⟨rfl, rfl⟩ := Prod.mk.inj he2
  clear h2 he2
  refine omap h1 (fun q hq he => ?_)
  obtain ⟨rfl, rfl⟩ := Prod.mk.inj he
  clear h1 he
  refine g_aln cx 1 dL_law_315 rfl ?_
  refine g_aln cx 0 dL_law_316 rfl ?_
  refine g_iln cx 3 dL_law_317 rfl ?_
  refine g_ic cx dL_law_318 k_ic1 ?_
  refine g_iadd cx dL_law_319 ?_
  refine g_sld cx hX hbl (Nat.not_le.mpr hbl) (sc_in (c := 1) hj hL (by decide)) dL_law_320 ?_
  refine g_aln cx 0 dL_law_321 rfl ?_
  refine g_iln cx 3 dL_law_322 rfl ?_
  refine g_ic cx dL_law_323 k_ic2 ?_
  refine g_iadd cx dL_law_324 ?_
  refine g_sld cx hX hbl (Nat.not_le.mpr hbl) (sc_in (c := 2) hj hL (by decide)) dL_law_325 ?_
  refine g_callVGi (gs' := [gX11 (u 0) cB cI cJ cZ (u 1 0) (u 2 0) (u 3 0) (u 4 0) (u 5 0) (u 6 0) (u 8 0) (u 9 0) (.ref (u 10 0)) (.ref (u 15 0)) st.1, gX8 (u 1) cB cI cJ cZ st.2.1, gX9 (u 2) cB cI cJ cZ st.2.2.1, gX4 (u 3) cB cI cJ cZ st.2.2.2.1, gX3 (u 4) cB cI cJ cZ st.2.2.2.2.1, gX2 (u 5) cB cI cJ cZ st.2.2.2.2.2.1, gX0 (u 6) cB cI cJ cZ (u 7 0) tv st.2.2.2.2.2.2.1, gX4 (u 7) cB cI cJ cZ st.2.2.2.2.2.2.2.1, gX4 (u 8) cB cI cJ cZ st.2.2.2.2.2.2.2.2.1, gX4 (u 9) cB cI cJ cZ st.2.2.2.2.2.2.2.2.2.1, gX7 (u 10) cB cI cJ cZ (u 11 0) (u 12 0) (u 13 0) (u 14 0) q.2, gX10 (u 11) cB cI cJ cZ st.2.2.2.2.2.2.2.2.2.2.2.1, gX1 (u 12) cB cI cJ cZ st.2.2.2.2.2.2.2.2.2.2.2.2.1, gX4 (u 13) cB cI cJ cZ st.2.2.2.2.2.2.2.2.2.2.2.2.2.1, gX4 (u 14) cB cI cJ cZ st.2.2.2.2.2.2.2.2.2.2.2.2.2.2.1, gX7 (u 15) cB cI cJ cZ (u 16 0) (u 17 0) (u 18 0) (u 19 0) st.2.2.2.2.2.2.2.2.2.2.2.2.2.2.2.1, gX10 (u 16) cB cI cJ cZ st.2.2.2.2.2.2.2.2.2.2.2.2.2.2.2.2.1, gX1 (u 17) cB cI cJ cZ st.2.2.2.2.2.2.2.2.2.2.2.2.2.2.2.2.2.1, gX4 (u 18) cB cI cJ cZ st.2.2.2.2.2.2.2.2.2.2.2.2.2.2.2.2.2.2.1, gX4 (u 19) cB cI cJ cZ st.2.2.2.2.2.2.2.2.2.2.2.2.2.2.2.2.2.2.2, wX12 mo cB cI cJ cZ ms]) cx lk_RL_38 (c_X11_metre l D cB cI cJ cZ (u 0) (u 10) (u 1) (u 2) (u 3) (u 4) (u 5) (u 6) (u 8) (u 9) (u 15) (u 11) (u 12) (u 13) (u 14) (st.1) (st.2.2.2.2.2.2.2.2.2.2.1) (xs ((nI j) + 1).toNatClampNeg) (xs ((nI j) + 2).toNatClampNeg) q hq) rfl [0, 10] rfl rfl rfl rfl (ci := 9) (q1 := 0) rfl rfl rfl (Nat.le_of_ble_eq_true rfl) ⟨rfl, rfl, Nat.le_of_ble_eq_true rfl, Nat.le_of_ble_eq_true rfl⟩ dL_law_326 ?_
  refine g_pop cx dL_law_329 rfl ?_
  refine g_aln cx 2 dL_law_330 rfl ?_
  refine g_aln cx 0 dL_law_331 rfl ?_
  refine g_iln cx 3 dL_law_332 rfl ?_
  refine g_ic cx dL_law_333 k_ic1 ?_
  refine g_iadd cx dL_law_334 ?_
  refine g_sld cx hX hbl (Nat.not_le.mpr hbl) (sc_in (c := 1) hj hL (by decide)) dL_law_335 ?_
  refine g_aln cx 0 dL_law_336 rfl ?_
  refine g_iln cx 3 dL_law_337 rfl ?_
  refine g_ic cx dL_law_338 k_ic2 ?_
  refine g_iadd cx dL_law_339 ?_
  refine g_sld cx hX hbl (Nat.not_le.mpr hbl) (sc_in (c := 2) hj hL (by decide)) dL_law_340 ?_
  refine g_callVGi (gc := [wX12 mo cB cI cJ cZ ms]) (g1 := [wX12 mo cB cI cJ cZ q2.2]) (gs' := [gX11 (u 0) cB cI cJ cZ (u 1 0) (u 2 0) (u 3 0) (u 4 0) (u 5 0) (u 6 0) (u 8 0) (u 9 0) (.ref (u 10 0)) (.ref (u 15 0)) st.1, gX8 (u 1) cB cI cJ cZ st.2.1, gX9 (u 2) cB cI cJ cZ st.2.2.1, gX4 (u 3) cB cI cJ cZ st.2.2.2.1, gX3 (u 4) cB cI cJ cZ st.2.2.2.2.1, gX2 (u 5) cB cI cJ cZ st.2.2.2.2.2.1, gX0 (u 6) cB cI cJ cZ (u 7 0) tv st.2.2.2.2.2.2.1, gX4 (u 7) cB cI cJ cZ st.2.2.2.2.2.2.2.1, gX4 (u 8) cB cI cJ cZ st.2.2.2.2.2.2.2.2.1, gX4 (u 9) cB cI cJ cZ st.2.2.2.2.2.2.2.2.2.1, gX7 (u 10) cB cI cJ cZ (u 11 0) (u 12 0) (u 13 0) (u 14 0) q.2, gX10 (u 11) cB cI cJ cZ st.2.2.2.2.2.2.2.2.2.2.2.1, gX1 (u 12) cB cI cJ cZ st.2.2.2.2.2.2.2.2.2.2.2.2.1, gX4 (u 13) cB cI cJ cZ st.2.2.2.2.2.2.2.2.2.2.2.2.2.1, gX4 (u 14) cB cI cJ cZ st.2.2.2.2.2.2.2.2.2.2.2.2.2.2.1, gX7 (u 15) cB cI cJ cZ (u 16 0) (u 17 0) (u 18 0) (u 19 0) st.2.2.2.2.2.2.2.2.2.2.2.2.2.2.2.1, gX10 (u 16) cB cI cJ cZ st.2.2.2.2.2.2.2.2.2.2.2.2.2.2.2.2.1, gX1 (u 17) cB cI cJ cZ st.2.2.2.2.2.2.2.2.2.2.2.2.2.2.2.2.2.1, gX4 (u 18) cB cI cJ cZ st.2.2.2.2.2.2.2.2.2.2.2.2.2.2.2.2.2.2.1, gX4 (u 19) cB cI cJ cZ st.2.2.2.2.2.2.2.2.2.2.2.2.2.2.2.2.2.2.2, wX12 mo cB cI cJ cZ q2.2]) cx lk_RL_41 (gm_one (c_X12_metre l D cB cI cJ cZ mo ms (xs ((nI j) + 1).toNatClampNeg) (xs ((nI j) + 2).toNatClampNeg) q2 hq2)) rfl [20] rfl rfl rfl rfl (ci := 10) (q1 := 0) rfl rfl rfl (Nat.le_of_ble_eq_true rfl) ⟨rfl, rfl, Nat.le_of_ble_eq_true rfl, Nat.le_of_ble_eq_true rfl⟩ dL_law_341 ?_
  refine g_pop cx dL_law_344 rfl ?_
  refine g_goto (tgt := 1104) cx dL_law_345 rfl ?_
  exact kk u mo (st.1, st.2.1, st.2.2.1, st.2.2.2.1, st.2.2.2.2.1, st.2.2.2.2.2.1, st.2.2.2.2.2.2.1, st.2.2.2.2.2.2.2.1, st.2.2.2.2.2.2.2.2.1, st.2.2.2.2.2.2.2.2.2.1, q.2, st.2.2.2.2.2.2.2.2.2.2.2.1, st.2.2.2.2.2.2.2.2.2.2.2.2.1, st.2.2.2.2.2.2.2.2.2.2.2.2.2.1, st.2.2.2.2.2.2.2.2.2.2.2.2.2.2.1, st.2.2.2.2.2.2.2.2.2.2.2.2.2.2.2.1, st.2.2.2.2.2.2.2.2.2.2.2.2.2.2.2.2.1, st.2.2.2.2.2.2.2.2.2.2.2.2.2.2.2.2.2.1, st.2.2.2.2.2.2.2.2.2.2.2.2.2.2.2.2.2.2.1, st.2.2.2.2.2.2.2.2.2.2.2.2.2.2.2.2.2.2.2) tv (q2.2) hJ
set_option maxHeartbeats 4000000 in
set_option maxRecDepth 100000 in
theorem lwc_line {p : Program} {l : Launch} {e : Env} {s : State} {m : MethodId} {below : List Frame} {meth : Method} {c : Code} {D : gG} {cB cI cJ cZ : ClassId} {b L : Nat} {xs : Nat → Int32} {J2 : SX → SM → Prop} (cx : gX p s m #[Value.ref b] meth c cL_law 4 RL D (tyL cB cI cJ cZ) (fun q => s.heap.size ≤ q)) (hX : va_X b L xs s s.heap) (hbl : b < s.heap.size) {j : Nat} (hj : j + 5 ≤ L) (hL : L ≤ 2560) {u : Nat → Nat → Nat} {st : SX} {tv : Value} {mo : Nat → Nat} {ms : SM} (hs : StepOK J2 st ms) (kk : ∀ (u : Nat → Nat → Nat) (mo : Nat → Nat) (st : SX) (tv : Value) (ms : SM), J2 st ms → gW p l e room_1 s m #[Value.ref b] below meth c D (fun q => s.heap.size ≤ q) 4 (lw_Z below #[Value.ref b] s) 88 2324 (wL cB cI cJ cZ u st tv mo ms).flatten [(0, .ref b), (1, .ref (u 0 0)), (2, .ref (mo 0)), (3, .int (nI j))] 1104 []) : gW p l e room_1 s m #[Value.ref b] below meth c D (fun q => s.heap.size ≤ q) 4 (lw_Z below #[Value.ref b] s) 88 2324 (wL cB cI cJ cZ u st tv mo ms).flatten [(0, .ref b), (1, .ref (u 0 0)), (2, .ref (mo 0)), (3, .int (nI j))] 348 [] := by
  obtain ⟨r, r2, st2, ms2, h1, h2, hJ⟩ := hs.2.2.2.2.2.2.1 (xs ((nI j) + 1).toNatClampNeg) (xs ((nI j) + 2).toNatClampNeg)
  refine omap h2 (fun q2 hq2 he2 => ?_)
  obtain ⟨rfl, rfl⟩ := Prod.mk.inj he2
  clear h2 he2
  refine omap h1 (fun q hq he => ?_)
  obtain ⟨rfl, rfl⟩ := Prod.mk.inj he
  clear h1 he
  refine g_aln cx 1 dL_law_348 rfl ?_
  refine g_aln cx 0 dL_law_349 rfl ?_
  refine g_iln cx 3 dL_law_350 rfl ?_
  refine g_ic cx dL_law_351 k_ic1 ?_
  refine g_iadd cx dL_law_352 ?_
  refine g_sld cx hX hbl (Nat.not_le.mpr hbl) (sc_in (c := 1) hj hL (by decide)) dL_law_353 ?_
  refine g_aln cx 0 dL_law_354 rfl ?_
  refine g_iln cx 3 dL_law_355 rfl ?_
  refine g_ic cx dL_law_356 k_ic2 ?_
  refine g_iadd cx dL_law_357 ?_
  refine g_sld cx hX hbl (Nat.not_le.mpr hbl) (sc_in (c := 2) hj hL (by decide)) dL_law_358 ?_
  refine g_callVGiR cx lk_RL_42 (c_X11_line l D cB cI cJ cZ (u 0) (u 10) (u 13) (u 1) (u 2) (u 3) (u 4) (u 5) (u 6) (u 8) (u 9) (u 15) (u 11) (u 12) (u 14) (st.1) (st.2.2.2.2.2.2.2.2.2.2.1) (st.2.2.2.2.2.2.2.2.2.2.2.2.2.1) (xs ((nI j) + 1).toNatClampNeg) (xs ((nI j) + 2).toNatClampNeg) q hq) rfl [0, 10, 13] rfl rfl (ci := 9) (q1 := 0) rfl rfl rfl (Nat.le_of_ble_eq_true rfl) ⟨rfl, rfl, Nat.le_of_ble_eq_true rfl, Nat.le_of_ble_eq_true rfl⟩ dL_law_359 ?_
  refine g_pop cx dL_law_362 rfl ?_
  refine g_aln cx 2 dL_law_363 rfl ?_
  refine g_aln cx 0 dL_law_364 rfl ?_
  refine g_iln cx 3 dL_law_365 rfl ?_
  refine g_ic cx dL_law_366 k_ic1 ?_
  refine g_iadd cx dL_law_367 ?_
  refine g_sld cx hX hbl (Nat.not_le.mpr hbl) (sc_in (c := 1) hj hL (by decide)) dL_law_368 ?_
  refine g_aln cx 0 dL_law_369 rfl ?_
  refine g_iln cx 3 dL_law_370 rfl ?_
  refine g_ic cx dL_law_371 k_ic2 ?_
  refine g_iadd cx dL_law_372 ?_
  refine g_sld cx hX hbl (Nat.not_le.mpr hbl) (sc_in (c := 2) hj hL (by decide)) dL_law_373 ?_
  refine g_callVGi (gc := [wX12 mo cB cI cJ cZ ms]) (g1 := [wX12 mo cB cI cJ cZ q2.2]) (gs' := [gX11 (u 0) cB cI cJ cZ (u 1 0) (u 2 0) (u 3 0) (u 4 0) (u 5 0) (u 6 0) (u 8 0) (u 9 0) (.ref (u 10 0)) (.ref (u 15 0)) st.1, gX8 (u 1) cB cI cJ cZ st.2.1, gX9 (u 2) cB cI cJ cZ st.2.2.1, gX4 (u 3) cB cI cJ cZ st.2.2.2.1, gX3 (u 4) cB cI cJ cZ st.2.2.2.2.1, gX2 (u 5) cB cI cJ cZ st.2.2.2.2.2.1, gX0 (u 6) cB cI cJ cZ (u 7 0) tv st.2.2.2.2.2.2.1, gX4 (u 7) cB cI cJ cZ st.2.2.2.2.2.2.2.1, gX4 (u 8) cB cI cJ cZ st.2.2.2.2.2.2.2.2.1, gX4 (u 9) cB cI cJ cZ st.2.2.2.2.2.2.2.2.2.1, gX7 (u 10) cB cI cJ cZ (u 11 0) (u 12 0) (u 13 0) (u 14 0) st.2.2.2.2.2.2.2.2.2.2.1, gX10 (u 11) cB cI cJ cZ st.2.2.2.2.2.2.2.2.2.2.2.1, gX1 (u 12) cB cI cJ cZ st.2.2.2.2.2.2.2.2.2.2.2.2.1, gX4 (u 13) cB cI cJ cZ st.2.2.2.2.2.2.2.2.2.2.2.2.2.1, gX4 (u 14) cB cI cJ cZ st.2.2.2.2.2.2.2.2.2.2.2.2.2.2.1, gX7 (u 15) cB cI cJ cZ (u 16 0) (u 17 0) (u 18 0) (u 19 0) st.2.2.2.2.2.2.2.2.2.2.2.2.2.2.2.1, gX10 (u 16) cB cI cJ cZ st.2.2.2.2.2.2.2.2.2.2.2.2.2.2.2.2.1, gX1 (u 17) cB cI cJ cZ st.2.2.2.2.2.2.2.2.2.2.2.2.2.2.2.2.2.1, gX4 (u 18) cB cI cJ cZ st.2.2.2.2.2.2.2.2.2.2.2.2.2.2.2.2.2.2.1, gX4 (u 19) cB cI cJ cZ st.2.2.2.2.2.2.2.2.2.2.2.2.2.2.2.2.2.2.2, wX12 mo cB cI cJ cZ q2.2]) cx lk_RL_45 (gm_one (c_X12_line l D cB cI cJ cZ mo ms (xs ((nI j) + 1).toNatClampNeg) (xs ((nI j) + 2).toNatClampNeg) q2 hq2)) rfl [20] rfl rfl rfl rfl (ci := 10) (q1 := 0) rfl rfl rfl (Nat.le_of_ble_eq_true rfl) ⟨rfl, rfl, Nat.le_of_ble_eq_true rfl, Nat.le_of_ble_eq_true rfl⟩ dL_law_374 ?_
  refine g_pop cx dL_law_377 rfl ?_
  refine g_goto (tgt := 1104) cx dL_law_378 rfl ?_
  exact kk u mo (st.1, st.2.1, st.2.2.1, st.2.2.2.1, st.2.2.2.2.1, st.2.2.2.2.2.1, st.2.2.2.2.2.2.1, st.2.2.2.2.2.2.2.1, st.2.2.2.2.2.2.2.2.1, st.2.2.2.2.2.2.2.2.2.1, st.2.2.2.2.2.2.2.2.2.2.1, st.2.2.2.2.2.2.2.2.2.2.2.1, st.2.2.2.2.2.2.2.2.2.2.2.2.1, st.2.2.2.2.2.2.2.2.2.2.2.2.2.1, st.2.2.2.2.2.2.2.2.2.2.2.2.2.2.1, st.2.2.2.2.2.2.2.2.2.2.2.2.2.2.2.1, st.2.2.2.2.2.2.2.2.2.2.2.2.2.2.2.2.1, st.2.2.2.2.2.2.2.2.2.2.2.2.2.2.2.2.2.1, st.2.2.2.2.2.2.2.2.2.2.2.2.2.2.2.2.2.2.1, st.2.2.2.2.2.2.2.2.2.2.2.2.2.2.2.2.2.2.2) tv (q2.2) hJ
set_option maxHeartbeats 4000000 in
set_option maxRecDepth 100000 in
theorem lwc_stock {p : Program} {l : Launch} {e : Env} {s : State} {m : MethodId} {below : List Frame} {meth : Method} {c : Code} {D : gG} {cB cI cJ cZ : ClassId} {b L : Nat} {xs : Nat → Int32} {J2 : SX → SM → Prop} (cx : gX p s m #[Value.ref b] meth c cL_law 4 RL D (tyL cB cI cJ cZ) (fun q => s.heap.size ≤ q)) (hX : va_X b L xs s s.heap) (hbl : b < s.heap.size) {j : Nat} (hj : j + 5 ≤ L) (hL : L ≤ 2560) {u : Nat → Nat → Nat} {st : SX} {tv : Value} {mo : Nat → Nat} {ms : SM} (hs : StepOK J2 st ms) (kk : ∀ (u : Nat → Nat → Nat) (mo : Nat → Nat) (st : SX) (tv : Value) (ms : SM), J2 st ms → gW p l e room_1 s m #[Value.ref b] below meth c D (fun q => s.heap.size ≤ q) 4 (lw_Z below #[Value.ref b] s) 88 2324 (wL cB cI cJ cZ u st tv mo ms).flatten [(0, .ref b), (1, .ref (u 0 0)), (2, .ref (mo 0)), (3, .int (nI j))] 1104 []) : gW p l e room_1 s m #[Value.ref b] below meth c D (fun q => s.heap.size ≤ q) 4 (lw_Z below #[Value.ref b] s) 88 2324 (wL cB cI cJ cZ u st tv mo ms).flatten [(0, .ref b), (1, .ref (u 0 0)), (2, .ref (mo 0)), (3, .int (nI j))] 381 [] := by
  obtain ⟨r, r2, st2, ms2, h1, h2, hJ⟩ := hs.2.2.2.2.2.2.2.1 (xs ((nI j) + 1).toNatClampNeg) (xs ((nI j) + 2).toNatClampNeg)
  refine omap h2 (fun q2 hq2 he2 => ?_)
  obtain ⟨rfl, rfl⟩ := Prod.mk.inj he2
  clear h2 he2
  refine omap h1 (fun q hq he => ?_)
  obtain ⟨rfl, rfl⟩ := Prod.mk.inj he
  clear h1 he
  refine g_aln cx 1 dL_law_381 rfl ?_
  refine g_aln cx 0 dL_law_382 rfl ?_
  refine g_iln cx 3 dL_law_383 rfl ?_
  refine g_ic cx dL_law_384 k_ic1 ?_
  refine g_iadd cx dL_law_385 ?_
  refine g_sld cx hX hbl (Nat.not_le.mpr hbl) (sc_in (c := 1) hj hL (by decide)) dL_law_386 ?_
  refine g_aln cx 0 dL_law_387 rfl ?_
  refine g_iln cx 3 dL_law_388 rfl ?_
  refine g_ic cx dL_law_389 k_ic2 ?_
  refine g_iadd cx dL_law_390 ?_
  refine g_sld cx hX hbl (Nat.not_le.mpr hbl) (sc_in (c := 2) hj hL (by decide)) dL_law_391 ?_
  refine g_callVGiR cx lk_RL_46 (c_X11_stock l D cB cI cJ cZ (u 0) (u 10) (u 14) (u 1) (u 2) (u 3) (u 4) (u 5) (u 6) (u 8) (u 9) (u 15) (u 11) (u 12) (u 13) (st.1) (st.2.2.2.2.2.2.2.2.2.2.1) (st.2.2.2.2.2.2.2.2.2.2.2.2.2.2.1) (xs ((nI j) + 1).toNatClampNeg) (xs ((nI j) + 2).toNatClampNeg) q hq) rfl [0, 10, 14] rfl rfl (ci := 9) (q1 := 0) rfl rfl rfl (Nat.le_of_ble_eq_true rfl) ⟨rfl, rfl, Nat.le_of_ble_eq_true rfl, Nat.le_of_ble_eq_true rfl⟩ dL_law_392 ?_
  refine g_pop cx dL_law_395 rfl ?_
  refine g_aln cx 2 dL_law_396 rfl ?_
  refine g_aln cx 0 dL_law_397 rfl ?_
  refine g_iln cx 3 dL_law_398 rfl ?_
  refine g_ic cx dL_law_399 k_ic1 ?_
  refine g_iadd cx dL_law_400 ?_
  refine g_sld cx hX hbl (Nat.not_le.mpr hbl) (sc_in (c := 1) hj hL (by decide)) dL_law_401 ?_
  refine g_aln cx 0 dL_law_402 rfl ?_
  refine g_iln cx 3 dL_law_403 rfl ?_
  refine g_ic cx dL_law_404 k_ic2 ?_
  refine g_iadd cx dL_law_405 ?_
  refine g_sld cx hX hbl (Nat.not_le.mpr hbl) (sc_in (c := 2) hj hL (by decide)) dL_law_406 ?_
  refine g_callVGi (gc := [wX12 mo cB cI cJ cZ ms]) (g1 := [wX12 mo cB cI cJ cZ q2.2]) (gs' := [gX11 (u 0) cB cI cJ cZ (u 1 0) (u 2 0) (u 3 0) (u 4 0) (u 5 0) (u 6 0) (u 8 0) (u 9 0) (.ref (u 10 0)) (.ref (u 15 0)) st.1, gX8 (u 1) cB cI cJ cZ st.2.1, gX9 (u 2) cB cI cJ cZ st.2.2.1, gX4 (u 3) cB cI cJ cZ st.2.2.2.1, gX3 (u 4) cB cI cJ cZ st.2.2.2.2.1, gX2 (u 5) cB cI cJ cZ st.2.2.2.2.2.1, gX0 (u 6) cB cI cJ cZ (u 7 0) tv st.2.2.2.2.2.2.1, gX4 (u 7) cB cI cJ cZ st.2.2.2.2.2.2.2.1, gX4 (u 8) cB cI cJ cZ st.2.2.2.2.2.2.2.2.1, gX4 (u 9) cB cI cJ cZ st.2.2.2.2.2.2.2.2.2.1, gX7 (u 10) cB cI cJ cZ (u 11 0) (u 12 0) (u 13 0) (u 14 0) st.2.2.2.2.2.2.2.2.2.2.1, gX10 (u 11) cB cI cJ cZ st.2.2.2.2.2.2.2.2.2.2.2.1, gX1 (u 12) cB cI cJ cZ st.2.2.2.2.2.2.2.2.2.2.2.2.1, gX4 (u 13) cB cI cJ cZ st.2.2.2.2.2.2.2.2.2.2.2.2.2.1, gX4 (u 14) cB cI cJ cZ st.2.2.2.2.2.2.2.2.2.2.2.2.2.2.1, gX7 (u 15) cB cI cJ cZ (u 16 0) (u 17 0) (u 18 0) (u 19 0) st.2.2.2.2.2.2.2.2.2.2.2.2.2.2.2.1, gX10 (u 16) cB cI cJ cZ st.2.2.2.2.2.2.2.2.2.2.2.2.2.2.2.2.1, gX1 (u 17) cB cI cJ cZ st.2.2.2.2.2.2.2.2.2.2.2.2.2.2.2.2.2.1, gX4 (u 18) cB cI cJ cZ st.2.2.2.2.2.2.2.2.2.2.2.2.2.2.2.2.2.2.1, gX4 (u 19) cB cI cJ cZ st.2.2.2.2.2.2.2.2.2.2.2.2.2.2.2.2.2.2.2, wX12 mo cB cI cJ cZ q2.2]) cx lk_RL_49 (gm_one (c_X12_stock l D cB cI cJ cZ mo ms (xs ((nI j) + 1).toNatClampNeg) (xs ((nI j) + 2).toNatClampNeg) q2 hq2)) rfl [20] rfl rfl rfl rfl (ci := 10) (q1 := 0) rfl rfl rfl (Nat.le_of_ble_eq_true rfl) ⟨rfl, rfl, Nat.le_of_ble_eq_true rfl, Nat.le_of_ble_eq_true rfl⟩ dL_law_407 ?_
  refine g_pop cx dL_law_410 rfl ?_
  refine g_goto (tgt := 1104) cx dL_law_411 rfl ?_
  exact kk u mo (st.1, st.2.1, st.2.2.1, st.2.2.2.1, st.2.2.2.2.1, st.2.2.2.2.2.1, st.2.2.2.2.2.2.1, st.2.2.2.2.2.2.2.1, st.2.2.2.2.2.2.2.2.1, st.2.2.2.2.2.2.2.2.2.1, st.2.2.2.2.2.2.2.2.2.2.1, st.2.2.2.2.2.2.2.2.2.2.2.1, st.2.2.2.2.2.2.2.2.2.2.2.2.1, st.2.2.2.2.2.2.2.2.2.2.2.2.2.1, st.2.2.2.2.2.2.2.2.2.2.2.2.2.2.1, st.2.2.2.2.2.2.2.2.2.2.2.2.2.2.2.1, st.2.2.2.2.2.2.2.2.2.2.2.2.2.2.2.2.1, st.2.2.2.2.2.2.2.2.2.2.2.2.2.2.2.2.2.1, st.2.2.2.2.2.2.2.2.2.2.2.2.2.2.2.2.2.2.1, st.2.2.2.2.2.2.2.2.2.2.2.2.2.2.2.2.2.2.2) tv (q2.2) hJ
set_option maxHeartbeats 4000000 in
set_option maxRecDepth 100000 in
theorem lwc_put {p : Program} {l : Launch} {e : Env} {s : State} {m : MethodId} {below : List Frame} {meth : Method} {c : Code} {D : gG} {cB cI cJ cZ : ClassId} {b L : Nat} {xs : Nat → Int32} {J2 : SX → SM → Prop} (cx : gX p s m #[Value.ref b] meth c cL_law 4 RL D (tyL cB cI cJ cZ) (fun q => s.heap.size ≤ q)) (hX : va_X b L xs s s.heap) (hbl : b < s.heap.size) {j : Nat} (hj : j + 5 ≤ L) (hL : L ≤ 2560) {u : Nat → Nat → Nat} {st : SX} {tv : Value} {mo : Nat → Nat} {ms : SM} (hs : StepOK J2 st ms) (kk : ∀ (u : Nat → Nat → Nat) (mo : Nat → Nat) (st : SX) (tv : Value) (ms : SM), J2 st ms → gW p l e room_1 s m #[Value.ref b] below meth c D (fun q => s.heap.size ≤ q) 4 (lw_Z below #[Value.ref b] s) 88 2324 (wL cB cI cJ cZ u st tv mo ms).flatten [(0, .ref b), (1, .ref (u 0 0)), (2, .ref (mo 0)), (3, .int (nI j))] 1104 []) : gW p l e room_1 s m #[Value.ref b] below meth c D (fun q => s.heap.size ≤ q) 4 (lw_Z below #[Value.ref b] s) 88 2324 (wL cB cI cJ cZ u st tv mo ms).flatten [(0, .ref b), (1, .ref (u 0 0)), (2, .ref (mo 0)), (3, .int (nI j))] 414 [] := by
  obtain ⟨r, r2, st2, ms2, h1, h2, hJ⟩ := hs.2.2.2.2.2.2.2.2.1 (xs ((nI j) + 1).toNatClampNeg) (xs ((nI j) + 2).toNatClampNeg) (xs ((nI j) + 3).toNatClampNeg) (xs ((nI j) + 4).toNatClampNeg)
  refine omap h2 (fun q2 hq2 he2 => ?_)
  obtain ⟨rfl, rfl⟩ := Prod.mk.inj he2
  clear h2 he2
  refine omap h1 (fun q hq he => ?_)
  obtain ⟨rfl, rfl⟩ := Prod.mk.inj he
  clear h1 he
  refine g_aln cx 1 dL_law_414 rfl ?_
  refine g_aln cx 0 dL_law_415 rfl ?_
  refine g_iln cx 3 dL_law_416 rfl ?_
  refine g_ic cx dL_law_417 k_ic1 ?_
  refine g_iadd cx dL_law_418 ?_
  refine g_sld cx hX hbl (Nat.not_le.mpr hbl) (sc_in (c := 1) hj hL (by decide)) dL_law_419 ?_
  refine g_aln cx 0 dL_law_420 rfl ?_
  refine g_iln cx 3 dL_law_421 rfl ?_
  refine g_ic cx dL_law_422 k_ic2 ?_
  refine g_iadd cx dL_law_423 ?_
  refine g_sld cx hX hbl (Nat.not_le.mpr hbl) (sc_in (c := 2) hj hL (by decide)) dL_law_424 ?_
  refine g_aln cx 0 dL_law_425 rfl ?_
  refine g_iln cx 3 dL_law_426 rfl ?_
  refine g_ic cx dL_law_427 k_ic3 ?_
  refine g_iadd cx dL_law_428 ?_
  refine g_sld cx hX hbl (Nat.not_le.mpr hbl) (sc_in (c := 3) hj hL (by decide)) dL_law_429 ?_
  refine g_aln cx 0 dL_law_430 rfl ?_
  refine g_iln cx 3 dL_law_431 rfl ?_
  refine g_ic cx dL_law_432 k_ic4 ?_
  refine g_iadd cx dL_law_433 ?_
  refine g_sld cx hX hbl (Nat.not_le.mpr hbl) (sc_in (c := 4) hj hL (by decide)) dL_law_434 ?_
  refine g_callVGi (gs' := [gX11 (u 0) cB cI cJ cZ (u 1 0) (u 2 0) (u 3 0) (u 4 0) (u 5 0) (u 6 0) (u 8 0) (u 9 0) (.ref (u 10 0)) (.ref (u 15 0)) st.1, gX8 (u 1) cB cI cJ cZ st.2.1, gX9 (u 2) cB cI cJ cZ st.2.2.1, gX4 (u 3) cB cI cJ cZ st.2.2.2.1, gX3 (u 4) cB cI cJ cZ st.2.2.2.2.1, gX2 (u 5) cB cI cJ cZ st.2.2.2.2.2.1, gX0 (u 6) cB cI cJ cZ (u 7 0) tv st.2.2.2.2.2.2.1, gX4 (u 7) cB cI cJ cZ st.2.2.2.2.2.2.2.1, gX4 (u 8) cB cI cJ cZ st.2.2.2.2.2.2.2.2.1, gX4 (u 9) cB cI cJ cZ st.2.2.2.2.2.2.2.2.2.1, gX7 (u 10) cB cI cJ cZ (u 11 0) (u 12 0) (u 13 0) (u 14 0) st.2.2.2.2.2.2.2.2.2.2.1, gX10 (u 11) cB cI cJ cZ st.2.2.2.2.2.2.2.2.2.2.2.1, gX1 (u 12) cB cI cJ cZ st.2.2.2.2.2.2.2.2.2.2.2.2.1, gX4 (u 13) cB cI cJ cZ q.2, gX4 (u 14) cB cI cJ cZ st.2.2.2.2.2.2.2.2.2.2.2.2.2.2.1, gX7 (u 15) cB cI cJ cZ (u 16 0) (u 17 0) (u 18 0) (u 19 0) st.2.2.2.2.2.2.2.2.2.2.2.2.2.2.2.1, gX10 (u 16) cB cI cJ cZ st.2.2.2.2.2.2.2.2.2.2.2.2.2.2.2.2.1, gX1 (u 17) cB cI cJ cZ st.2.2.2.2.2.2.2.2.2.2.2.2.2.2.2.2.2.1, gX4 (u 18) cB cI cJ cZ st.2.2.2.2.2.2.2.2.2.2.2.2.2.2.2.2.2.2.1, gX4 (u 19) cB cI cJ cZ st.2.2.2.2.2.2.2.2.2.2.2.2.2.2.2.2.2.2.2, wX12 mo cB cI cJ cZ ms]) cx lk_RL_50 (c_X11_put l D cB cI cJ cZ (u 0) (u 10) (u 13) (u 11) (u 1) (u 2) (u 3) (u 4) (u 5) (u 6) (u 8) (u 9) (u 15) (u 12) (u 14) (st.1) (st.2.2.2.2.2.2.2.2.2.2.1) (st.2.2.2.2.2.2.2.2.2.2.2.2.2.1) (st.2.2.2.2.2.2.2.2.2.2.2.1) (xs ((nI j) + 1).toNatClampNeg) (xs ((nI j) + 2).toNatClampNeg) (xs ((nI j) + 3).toNatClampNeg) (xs ((nI j) + 4).toNatClampNeg) q hq) rfl [0, 10, 13, 11] rfl rfl rfl rfl (ci := 9) (q1 := 0) rfl rfl rfl (Nat.le_of_ble_eq_true rfl) ⟨rfl, rfl, Nat.le_of_ble_eq_true rfl, Nat.le_of_ble_eq_true rfl⟩ dL_law_435 ?_
  refine g_pop cx dL_law_438 rfl ?_
  refine g_aln cx 2 dL_law_439 rfl ?_
  refine g_aln cx 0 dL_law_440 rfl ?_
  refine g_iln cx 3 dL_law_441 rfl ?_
  refine g_ic cx dL_law_442 k_ic1 ?_
  refine g_iadd cx dL_law_443 ?_
  refine g_sld cx hX hbl (Nat.not_le.mpr hbl) (sc_in (c := 1) hj hL (by decide)) dL_law_444 ?_
  refine g_aln cx 0 dL_law_445 rfl ?_
  refine g_iln cx 3 dL_law_446 rfl ?_
  refine g_ic cx dL_law_447 k_ic2 ?_
  refine g_iadd cx dL_law_448 ?_
  refine g_sld cx hX hbl (Nat.not_le.mpr hbl) (sc_in (c := 2) hj hL (by decide)) dL_law_449 ?_
  refine g_aln cx 0 dL_law_450 rfl ?_
  refine g_iln cx 3 dL_law_451 rfl ?_
  refine g_ic cx dL_law_452 k_ic3 ?_
  refine g_iadd cx dL_law_453 ?_
  refine g_sld cx hX hbl (Nat.not_le.mpr hbl) (sc_in (c := 3) hj hL (by decide)) dL_law_454 ?_
  refine g_aln cx 0 dL_law_455 rfl ?_
  refine g_iln cx 3 dL_law_456 rfl ?_
  refine g_ic cx dL_law_457 k_ic4 ?_
  refine g_iadd cx dL_law_458 ?_
  refine g_sld cx hX hbl (Nat.not_le.mpr hbl) (sc_in (c := 4) hj hL (by decide)) dL_law_459 ?_
  refine g_callVGi (gc := [wX12 mo cB cI cJ cZ ms]) (g1 := [wX12 mo cB cI cJ cZ q2.2]) (gs' := [gX11 (u 0) cB cI cJ cZ (u 1 0) (u 2 0) (u 3 0) (u 4 0) (u 5 0) (u 6 0) (u 8 0) (u 9 0) (.ref (u 10 0)) (.ref (u 15 0)) st.1, gX8 (u 1) cB cI cJ cZ st.2.1, gX9 (u 2) cB cI cJ cZ st.2.2.1, gX4 (u 3) cB cI cJ cZ st.2.2.2.1, gX3 (u 4) cB cI cJ cZ st.2.2.2.2.1, gX2 (u 5) cB cI cJ cZ st.2.2.2.2.2.1, gX0 (u 6) cB cI cJ cZ (u 7 0) tv st.2.2.2.2.2.2.1, gX4 (u 7) cB cI cJ cZ st.2.2.2.2.2.2.2.1, gX4 (u 8) cB cI cJ cZ st.2.2.2.2.2.2.2.2.1, gX4 (u 9) cB cI cJ cZ st.2.2.2.2.2.2.2.2.2.1, gX7 (u 10) cB cI cJ cZ (u 11 0) (u 12 0) (u 13 0) (u 14 0) st.2.2.2.2.2.2.2.2.2.2.1, gX10 (u 11) cB cI cJ cZ st.2.2.2.2.2.2.2.2.2.2.2.1, gX1 (u 12) cB cI cJ cZ st.2.2.2.2.2.2.2.2.2.2.2.2.1, gX4 (u 13) cB cI cJ cZ q.2, gX4 (u 14) cB cI cJ cZ st.2.2.2.2.2.2.2.2.2.2.2.2.2.2.1, gX7 (u 15) cB cI cJ cZ (u 16 0) (u 17 0) (u 18 0) (u 19 0) st.2.2.2.2.2.2.2.2.2.2.2.2.2.2.2.1, gX10 (u 16) cB cI cJ cZ st.2.2.2.2.2.2.2.2.2.2.2.2.2.2.2.2.1, gX1 (u 17) cB cI cJ cZ st.2.2.2.2.2.2.2.2.2.2.2.2.2.2.2.2.2.1, gX4 (u 18) cB cI cJ cZ st.2.2.2.2.2.2.2.2.2.2.2.2.2.2.2.2.2.2.1, gX4 (u 19) cB cI cJ cZ st.2.2.2.2.2.2.2.2.2.2.2.2.2.2.2.2.2.2.2, wX12 mo cB cI cJ cZ q2.2]) cx lk_RL_54 (gm_one (c_X12_put l D cB cI cJ cZ mo ms (xs ((nI j) + 1).toNatClampNeg) (xs ((nI j) + 2).toNatClampNeg) (xs ((nI j) + 3).toNatClampNeg) (xs ((nI j) + 4).toNatClampNeg) q2 hq2)) rfl [20] rfl rfl rfl rfl (ci := 10) (q1 := 0) rfl rfl rfl (Nat.le_of_ble_eq_true rfl) ⟨rfl, rfl, Nat.le_of_ble_eq_true rfl, Nat.le_of_ble_eq_true rfl⟩ dL_law_460 ?_
  refine g_pop cx dL_law_463 rfl ?_
  refine g_goto (tgt := 1104) cx dL_law_464 rfl ?_
  exact kk u mo (st.1, st.2.1, st.2.2.1, st.2.2.2.1, st.2.2.2.2.1, st.2.2.2.2.2.1, st.2.2.2.2.2.2.1, st.2.2.2.2.2.2.2.1, st.2.2.2.2.2.2.2.2.1, st.2.2.2.2.2.2.2.2.2.1, st.2.2.2.2.2.2.2.2.2.2.1, st.2.2.2.2.2.2.2.2.2.2.2.1, st.2.2.2.2.2.2.2.2.2.2.2.2.1, q.2, st.2.2.2.2.2.2.2.2.2.2.2.2.2.2.1, st.2.2.2.2.2.2.2.2.2.2.2.2.2.2.2.1, st.2.2.2.2.2.2.2.2.2.2.2.2.2.2.2.2.1, st.2.2.2.2.2.2.2.2.2.2.2.2.2.2.2.2.2.1, st.2.2.2.2.2.2.2.2.2.2.2.2.2.2.2.2.2.2.1, st.2.2.2.2.2.2.2.2.2.2.2.2.2.2.2.2.2.2.2) tv (q2.2) hJ
set_option maxHeartbeats 4000000 in
set_option maxRecDepth 100000 in
theorem lwc_change {p : Program} {l : Launch} {e : Env} {s : State} {m : MethodId} {below : List Frame} {meth : Method} {c : Code} {D : gG} {cB cI cJ cZ : ClassId} {b L : Nat} {xs : Nat → Int32} {J2 : SX → SM → Prop} (cx : gX p s m #[Value.ref b] meth c cL_law 4 RL D (tyL cB cI cJ cZ) (fun q => s.heap.size ≤ q)) (hX : va_X b L xs s s.heap) (hbl : b < s.heap.size) {j : Nat} (hj : j + 5 ≤ L) (hL : L ≤ 2560) {u : Nat → Nat → Nat} {st : SX} {tv : Value} {mo : Nat → Nat} {ms : SM} (hs : StepOK J2 st ms) (kk : ∀ (u : Nat → Nat → Nat) (mo : Nat → Nat) (st : SX) (tv : Value) (ms : SM), J2 st ms → gW p l e room_1 s m #[Value.ref b] below meth c D (fun q => s.heap.size ≤ q) 4 (lw_Z below #[Value.ref b] s) 88 2324 (wL cB cI cJ cZ u st tv mo ms).flatten [(0, .ref b), (1, .ref (u 0 0)), (2, .ref (mo 0)), (3, .int (nI j))] 1104 []) : gW p l e room_1 s m #[Value.ref b] below meth c D (fun q => s.heap.size ≤ q) 4 (lw_Z below #[Value.ref b] s) 88 2324 (wL cB cI cJ cZ u st tv mo ms).flatten [(0, .ref b), (1, .ref (u 0 0)), (2, .ref (mo 0)), (3, .int (nI j))] 467 [] := by
  obtain ⟨r, r2, st2, ms2, h1, h2, hJ⟩ := hs.2.2.2.2.2.2.2.2.2.1 (xs ((nI j) + 1).toNatClampNeg) (xs ((nI j) + 2).toNatClampNeg)
  refine omap h2 (fun q2 hq2 he2 => ?_)
  obtain ⟨rfl, rfl⟩ := Prod.mk.inj he2
  clear h2 he2
  refine omap h1 (fun q hq he => ?_)
  obtain ⟨rfl, rfl⟩ := Prod.mk.inj he
  clear h1 he
  refine g_aln cx 1 dL_law_467 rfl ?_
  refine g_aln cx 0 dL_law_468 rfl ?_
  refine g_iln cx 3 dL_law_469 rfl ?_
  refine g_ic cx dL_law_470 k_ic1 ?_
  refine g_iadd cx dL_law_471 ?_
  refine g_sld cx hX hbl (Nat.not_le.mpr hbl) (sc_in (c := 1) hj hL (by decide)) dL_law_472 ?_
  refine g_aln cx 0 dL_law_473 rfl ?_
  refine g_iln cx 3 dL_law_474 rfl ?_
  refine g_ic cx dL_law_475 k_ic2 ?_
  refine g_iadd cx dL_law_476 ?_
  refine g_sld cx hX hbl (Nat.not_le.mpr hbl) (sc_in (c := 2) hj hL (by decide)) dL_law_477 ?_
  refine g_callVGi (gs' := [gX11 (u 0) cB cI cJ cZ (u 1 0) (u 2 0) (u 3 0) (u 4 0) (u 5 0) (u 6 0) (u 8 0) (u 9 0) (.ref (u 10 0)) (.ref (u 15 0)) st.1, gX8 (u 1) cB cI cJ cZ st.2.1, gX9 (u 2) cB cI cJ cZ st.2.2.1, gX4 (u 3) cB cI cJ cZ st.2.2.2.1, gX3 (u 4) cB cI cJ cZ st.2.2.2.2.1, gX2 (u 5) cB cI cJ cZ st.2.2.2.2.2.1, gX0 (u 6) cB cI cJ cZ (u 7 0) tv st.2.2.2.2.2.2.1, gX4 (u 7) cB cI cJ cZ st.2.2.2.2.2.2.2.1, gX4 (u 8) cB cI cJ cZ st.2.2.2.2.2.2.2.2.1, gX4 (u 9) cB cI cJ cZ st.2.2.2.2.2.2.2.2.2.1, gX7 (u 10) cB cI cJ cZ (u 11 0) (u 12 0) (u 13 0) (u 14 0) st.2.2.2.2.2.2.2.2.2.2.1, gX10 (u 11) cB cI cJ cZ st.2.2.2.2.2.2.2.2.2.2.2.1, gX1 (u 12) cB cI cJ cZ st.2.2.2.2.2.2.2.2.2.2.2.2.1, gX4 (u 13) cB cI cJ cZ q.2, gX4 (u 14) cB cI cJ cZ st.2.2.2.2.2.2.2.2.2.2.2.2.2.2.1, gX7 (u 15) cB cI cJ cZ (u 16 0) (u 17 0) (u 18 0) (u 19 0) st.2.2.2.2.2.2.2.2.2.2.2.2.2.2.2.1, gX10 (u 16) cB cI cJ cZ st.2.2.2.2.2.2.2.2.2.2.2.2.2.2.2.2.1, gX1 (u 17) cB cI cJ cZ st.2.2.2.2.2.2.2.2.2.2.2.2.2.2.2.2.2.1, gX4 (u 18) cB cI cJ cZ st.2.2.2.2.2.2.2.2.2.2.2.2.2.2.2.2.2.2.1, gX4 (u 19) cB cI cJ cZ st.2.2.2.2.2.2.2.2.2.2.2.2.2.2.2.2.2.2.2, wX12 mo cB cI cJ cZ ms]) cx lk_RL_55 (c_X11_change l D cB cI cJ cZ (u 0) (u 10) (u 13) (u 11) (u 1) (u 2) (u 3) (u 4) (u 5) (u 6) (u 8) (u 9) (u 15) (u 12) (u 14) (st.1) (st.2.2.2.2.2.2.2.2.2.2.1) (st.2.2.2.2.2.2.2.2.2.2.2.2.2.1) (st.2.2.2.2.2.2.2.2.2.2.2.1) (xs ((nI j) + 1).toNatClampNeg) (xs ((nI j) + 2).toNatClampNeg) q hq) rfl [0, 10, 13, 11] rfl rfl rfl rfl (ci := 9) (q1 := 0) rfl rfl rfl (Nat.le_of_ble_eq_true rfl) ⟨rfl, rfl, Nat.le_of_ble_eq_true rfl, Nat.le_of_ble_eq_true rfl⟩ dL_law_478 ?_
  refine g_pop cx dL_law_481 rfl ?_
  refine g_aln cx 2 dL_law_482 rfl ?_
  refine g_aln cx 0 dL_law_483 rfl ?_
  refine g_iln cx 3 dL_law_484 rfl ?_
  refine g_ic cx dL_law_485 k_ic1 ?_
  refine g_iadd cx dL_law_486 ?_
  refine g_sld cx hX hbl (Nat.not_le.mpr hbl) (sc_in (c := 1) hj hL (by decide)) dL_law_487 ?_
  refine g_aln cx 0 dL_law_488 rfl ?_
  refine g_iln cx 3 dL_law_489 rfl ?_
  refine g_ic cx dL_law_490 k_ic2 ?_
  refine g_iadd cx dL_law_491 ?_
  refine g_sld cx hX hbl (Nat.not_le.mpr hbl) (sc_in (c := 2) hj hL (by decide)) dL_law_492 ?_
  refine g_callVGi (gc := [wX12 mo cB cI cJ cZ ms]) (g1 := [wX12 mo cB cI cJ cZ q2.2]) (gs' := [gX11 (u 0) cB cI cJ cZ (u 1 0) (u 2 0) (u 3 0) (u 4 0) (u 5 0) (u 6 0) (u 8 0) (u 9 0) (.ref (u 10 0)) (.ref (u 15 0)) st.1, gX8 (u 1) cB cI cJ cZ st.2.1, gX9 (u 2) cB cI cJ cZ st.2.2.1, gX4 (u 3) cB cI cJ cZ st.2.2.2.1, gX3 (u 4) cB cI cJ cZ st.2.2.2.2.1, gX2 (u 5) cB cI cJ cZ st.2.2.2.2.2.1, gX0 (u 6) cB cI cJ cZ (u 7 0) tv st.2.2.2.2.2.2.1, gX4 (u 7) cB cI cJ cZ st.2.2.2.2.2.2.2.1, gX4 (u 8) cB cI cJ cZ st.2.2.2.2.2.2.2.2.1, gX4 (u 9) cB cI cJ cZ st.2.2.2.2.2.2.2.2.2.1, gX7 (u 10) cB cI cJ cZ (u 11 0) (u 12 0) (u 13 0) (u 14 0) st.2.2.2.2.2.2.2.2.2.2.1, gX10 (u 11) cB cI cJ cZ st.2.2.2.2.2.2.2.2.2.2.2.1, gX1 (u 12) cB cI cJ cZ st.2.2.2.2.2.2.2.2.2.2.2.2.1, gX4 (u 13) cB cI cJ cZ q.2, gX4 (u 14) cB cI cJ cZ st.2.2.2.2.2.2.2.2.2.2.2.2.2.2.1, gX7 (u 15) cB cI cJ cZ (u 16 0) (u 17 0) (u 18 0) (u 19 0) st.2.2.2.2.2.2.2.2.2.2.2.2.2.2.2.1, gX10 (u 16) cB cI cJ cZ st.2.2.2.2.2.2.2.2.2.2.2.2.2.2.2.2.1, gX1 (u 17) cB cI cJ cZ st.2.2.2.2.2.2.2.2.2.2.2.2.2.2.2.2.2.1, gX4 (u 18) cB cI cJ cZ st.2.2.2.2.2.2.2.2.2.2.2.2.2.2.2.2.2.2.1, gX4 (u 19) cB cI cJ cZ st.2.2.2.2.2.2.2.2.2.2.2.2.2.2.2.2.2.2.2, wX12 mo cB cI cJ cZ q2.2]) cx lk_RL_58 (gm_one (c_X12_change l D cB cI cJ cZ mo ms (xs ((nI j) + 1).toNatClampNeg) (xs ((nI j) + 2).toNatClampNeg) q2 hq2)) rfl [20] rfl rfl rfl rfl (ci := 10) (q1 := 0) rfl rfl rfl (Nat.le_of_ble_eq_true rfl) ⟨rfl, rfl, Nat.le_of_ble_eq_true rfl, Nat.le_of_ble_eq_true rfl⟩ dL_law_493 ?_
  refine g_pop cx dL_law_496 rfl ?_
  refine g_goto (tgt := 1104) cx dL_law_497 rfl ?_
  exact kk u mo (st.1, st.2.1, st.2.2.1, st.2.2.2.1, st.2.2.2.2.1, st.2.2.2.2.2.1, st.2.2.2.2.2.2.1, st.2.2.2.2.2.2.2.1, st.2.2.2.2.2.2.2.2.1, st.2.2.2.2.2.2.2.2.2.1, st.2.2.2.2.2.2.2.2.2.2.1, st.2.2.2.2.2.2.2.2.2.2.2.1, st.2.2.2.2.2.2.2.2.2.2.2.2.1, q.2, st.2.2.2.2.2.2.2.2.2.2.2.2.2.2.1, st.2.2.2.2.2.2.2.2.2.2.2.2.2.2.2.1, st.2.2.2.2.2.2.2.2.2.2.2.2.2.2.2.2.1, st.2.2.2.2.2.2.2.2.2.2.2.2.2.2.2.2.2.1, st.2.2.2.2.2.2.2.2.2.2.2.2.2.2.2.2.2.2.1, st.2.2.2.2.2.2.2.2.2.2.2.2.2.2.2.2.2.2.2) tv (q2.2) hJ
set_option maxHeartbeats 4000000 in
set_option maxRecDepth 100000 in
theorem lwc_take {p : Program} {l : Launch} {e : Env} {s : State} {m : MethodId} {below : List Frame} {meth : Method} {c : Code} {D : gG} {cB cI cJ cZ : ClassId} {b L : Nat} {xs : Nat → Int32} {J2 : SX → SM → Prop} (cx : gX p s m #[Value.ref b] meth c cL_law 4 RL D (tyL cB cI cJ cZ) (fun q => s.heap.size ≤ q)) (hX : va_X b L xs s s.heap) (hbl : b < s.heap.size) {j : Nat} (hj : j + 5 ≤ L) (hL : L ≤ 2560) {u : Nat → Nat → Nat} {st : SX} {tv : Value} {mo : Nat → Nat} {ms : SM} (hs : StepOK J2 st ms) (kk : ∀ (u : Nat → Nat → Nat) (mo : Nat → Nat) (st : SX) (tv : Value) (ms : SM), J2 st ms → gW p l e room_1 s m #[Value.ref b] below meth c D (fun q => s.heap.size ≤ q) 4 (lw_Z below #[Value.ref b] s) 88 2324 (wL cB cI cJ cZ u st tv mo ms).flatten [(0, .ref b), (1, .ref (u 0 0)), (2, .ref (mo 0)), (3, .int (nI j))] 1104 []) : gW p l e room_1 s m #[Value.ref b] below meth c D (fun q => s.heap.size ≤ q) 4 (lw_Z below #[Value.ref b] s) 88 2324 (wL cB cI cJ cZ u st tv mo ms).flatten [(0, .ref b), (1, .ref (u 0 0)), (2, .ref (mo 0)), (3, .int (nI j))] 500 [] := by
  obtain ⟨r, r2, st2, ms2, h1, h2, hJ⟩ := hs.2.2.2.2.2.2.2.2.2.2.1 (xs ((nI j) + 1).toNatClampNeg)
  refine omap h2 (fun q2 hq2 he2 => ?_)
  obtain ⟨rfl, rfl⟩ := Prod.mk.inj he2
  clear h2 he2
  refine omap h1 (fun q hq he => ?_)
  obtain ⟨rfl, rfl⟩ := Prod.mk.inj he
  clear h1 he
  refine g_aln cx 1 dL_law_500 rfl ?_
  refine g_aln cx 0 dL_law_501 rfl ?_
  refine g_iln cx 3 dL_law_502 rfl ?_
  refine g_ic cx dL_law_503 k_ic1 ?_
  refine g_iadd cx dL_law_504 ?_
  refine g_sld cx hX hbl (Nat.not_le.mpr hbl) (sc_in (c := 1) hj hL (by decide)) dL_law_505 ?_
  refine g_callVGi (gs' := [gX11 (u 0) cB cI cJ cZ (u 1 0) (u 2 0) (u 3 0) (u 4 0) (u 5 0) (u 6 0) (u 8 0) (u 9 0) (.ref (u 10 0)) (.ref (u 15 0)) st.1, gX8 (u 1) cB cI cJ cZ st.2.1, gX9 (u 2) cB cI cJ cZ st.2.2.1, gX4 (u 3) cB cI cJ cZ st.2.2.2.1, gX3 (u 4) cB cI cJ cZ st.2.2.2.2.1, gX2 (u 5) cB cI cJ cZ st.2.2.2.2.2.1, gX0 (u 6) cB cI cJ cZ (u 7 0) tv st.2.2.2.2.2.2.1, gX4 (u 7) cB cI cJ cZ st.2.2.2.2.2.2.2.1, gX4 (u 8) cB cI cJ cZ st.2.2.2.2.2.2.2.2.1, gX4 (u 9) cB cI cJ cZ st.2.2.2.2.2.2.2.2.2.1, gX7 (u 10) cB cI cJ cZ (u 11 0) (u 12 0) (u 13 0) (u 14 0) st.2.2.2.2.2.2.2.2.2.2.1, gX10 (u 11) cB cI cJ cZ st.2.2.2.2.2.2.2.2.2.2.2.1, gX1 (u 12) cB cI cJ cZ st.2.2.2.2.2.2.2.2.2.2.2.2.1, gX4 (u 13) cB cI cJ cZ q.2, gX4 (u 14) cB cI cJ cZ st.2.2.2.2.2.2.2.2.2.2.2.2.2.2.1, gX7 (u 15) cB cI cJ cZ (u 16 0) (u 17 0) (u 18 0) (u 19 0) st.2.2.2.2.2.2.2.2.2.2.2.2.2.2.2.1, gX10 (u 16) cB cI cJ cZ st.2.2.2.2.2.2.2.2.2.2.2.2.2.2.2.2.1, gX1 (u 17) cB cI cJ cZ st.2.2.2.2.2.2.2.2.2.2.2.2.2.2.2.2.2.1, gX4 (u 18) cB cI cJ cZ st.2.2.2.2.2.2.2.2.2.2.2.2.2.2.2.2.2.2.1, gX4 (u 19) cB cI cJ cZ st.2.2.2.2.2.2.2.2.2.2.2.2.2.2.2.2.2.2.2, wX12 mo cB cI cJ cZ ms]) cx lk_RL_59 (c_X11_take l D cB cI cJ cZ (u 0) (u 10) (u 13) (u 1) (u 2) (u 3) (u 4) (u 5) (u 6) (u 8) (u 9) (u 15) (u 11) (u 12) (u 14) (st.1) (st.2.2.2.2.2.2.2.2.2.2.1) (st.2.2.2.2.2.2.2.2.2.2.2.2.2.1) (xs ((nI j) + 1).toNatClampNeg) q hq) rfl [0, 10, 13] rfl rfl rfl rfl (ci := 9) (q1 := 0) rfl rfl rfl (Nat.le_of_ble_eq_true rfl) ⟨rfl, rfl, Nat.le_of_ble_eq_true rfl, Nat.le_of_ble_eq_true rfl⟩ dL_law_506 ?_
  refine g_pop cx dL_law_509 rfl ?_
  refine g_aln cx 2 dL_law_510 rfl ?_
  refine g_aln cx 0 dL_law_511 rfl ?_
  refine g_iln cx 3 dL_law_512 rfl ?_
  refine g_ic cx dL_law_513 k_ic1 ?_
  refine g_iadd cx dL_law_514 ?_
  refine g_sld cx hX hbl (Nat.not_le.mpr hbl) (sc_in (c := 1) hj hL (by decide)) dL_law_515 ?_
  refine g_callVGi (gc := [wX12 mo cB cI cJ cZ ms]) (g1 := [wX12 mo cB cI cJ cZ q2.2]) (gs' := [gX11 (u 0) cB cI cJ cZ (u 1 0) (u 2 0) (u 3 0) (u 4 0) (u 5 0) (u 6 0) (u 8 0) (u 9 0) (.ref (u 10 0)) (.ref (u 15 0)) st.1, gX8 (u 1) cB cI cJ cZ st.2.1, gX9 (u 2) cB cI cJ cZ st.2.2.1, gX4 (u 3) cB cI cJ cZ st.2.2.2.1, gX3 (u 4) cB cI cJ cZ st.2.2.2.2.1, gX2 (u 5) cB cI cJ cZ st.2.2.2.2.2.1, gX0 (u 6) cB cI cJ cZ (u 7 0) tv st.2.2.2.2.2.2.1, gX4 (u 7) cB cI cJ cZ st.2.2.2.2.2.2.2.1, gX4 (u 8) cB cI cJ cZ st.2.2.2.2.2.2.2.2.1, gX4 (u 9) cB cI cJ cZ st.2.2.2.2.2.2.2.2.2.1, gX7 (u 10) cB cI cJ cZ (u 11 0) (u 12 0) (u 13 0) (u 14 0) st.2.2.2.2.2.2.2.2.2.2.1, gX10 (u 11) cB cI cJ cZ st.2.2.2.2.2.2.2.2.2.2.2.1, gX1 (u 12) cB cI cJ cZ st.2.2.2.2.2.2.2.2.2.2.2.2.1, gX4 (u 13) cB cI cJ cZ q.2, gX4 (u 14) cB cI cJ cZ st.2.2.2.2.2.2.2.2.2.2.2.2.2.2.1, gX7 (u 15) cB cI cJ cZ (u 16 0) (u 17 0) (u 18 0) (u 19 0) st.2.2.2.2.2.2.2.2.2.2.2.2.2.2.2.1, gX10 (u 16) cB cI cJ cZ st.2.2.2.2.2.2.2.2.2.2.2.2.2.2.2.2.1, gX1 (u 17) cB cI cJ cZ st.2.2.2.2.2.2.2.2.2.2.2.2.2.2.2.2.2.1, gX4 (u 18) cB cI cJ cZ st.2.2.2.2.2.2.2.2.2.2.2.2.2.2.2.2.2.2.1, gX4 (u 19) cB cI cJ cZ st.2.2.2.2.2.2.2.2.2.2.2.2.2.2.2.2.2.2.2, wX12 mo cB cI cJ cZ q2.2]) cx lk_RL_63 (gm_one (c_X12_take l D cB cI cJ cZ mo ms (xs ((nI j) + 1).toNatClampNeg) q2 hq2)) rfl [20] rfl rfl rfl rfl (ci := 10) (q1 := 0) rfl rfl rfl (Nat.le_of_ble_eq_true rfl) ⟨rfl, rfl, Nat.le_of_ble_eq_true rfl, Nat.le_of_ble_eq_true rfl⟩ dL_law_516 ?_
  refine g_pop cx dL_law_519 rfl ?_
  refine g_goto (tgt := 1104) cx dL_law_520 rfl ?_
  exact kk u mo (st.1, st.2.1, st.2.2.1, st.2.2.2.1, st.2.2.2.2.1, st.2.2.2.2.2.1, st.2.2.2.2.2.2.1, st.2.2.2.2.2.2.2.1, st.2.2.2.2.2.2.2.2.1, st.2.2.2.2.2.2.2.2.2.1, st.2.2.2.2.2.2.2.2.2.2.1, st.2.2.2.2.2.2.2.2.2.2.2.1, st.2.2.2.2.2.2.2.2.2.2.2.2.1, q.2, st.2.2.2.2.2.2.2.2.2.2.2.2.2.2.1, st.2.2.2.2.2.2.2.2.2.2.2.2.2.2.2.1, st.2.2.2.2.2.2.2.2.2.2.2.2.2.2.2.2.1, st.2.2.2.2.2.2.2.2.2.2.2.2.2.2.2.2.2.1, st.2.2.2.2.2.2.2.2.2.2.2.2.2.2.2.2.2.2.1, st.2.2.2.2.2.2.2.2.2.2.2.2.2.2.2.2.2.2.2) tv (q2.2) hJ
set_option maxHeartbeats 4000000 in
set_option maxRecDepth 100000 in
theorem lwc_judged {p : Program} {l : Launch} {e : Env} {s : State} {m : MethodId} {below : List Frame} {meth : Method} {c : Code} {D : gG} {cB cI cJ cZ : ClassId} {b L : Nat} {xs : Nat → Int32} {J2 : SX → SM → Prop} (cx : gX p s m #[Value.ref b] meth c cL_law 4 RL D (tyL cB cI cJ cZ) (fun q => s.heap.size ≤ q)) (hX : va_X b L xs s s.heap) (hbl : b < s.heap.size) {j : Nat} (hj : j + 5 ≤ L) (hL : L ≤ 2560) {u : Nat → Nat → Nat} {st : SX} {tv : Value} {mo : Nat → Nat} {ms : SM} (hs : StepOK J2 st ms) (kk : ∀ (u : Nat → Nat → Nat) (mo : Nat → Nat) (st : SX) (tv : Value) (ms : SM), J2 st ms → gW p l e room_1 s m #[Value.ref b] below meth c D (fun q => s.heap.size ≤ q) 4 (lw_Z below #[Value.ref b] s) 88 2324 (wL cB cI cJ cZ u st tv mo ms).flatten [(0, .ref b), (1, .ref (u 0 0)), (2, .ref (mo 0)), (3, .int (nI j))] 1104 []) : gW p l e room_1 s m #[Value.ref b] below meth c D (fun q => s.heap.size ≤ q) 4 (lw_Z below #[Value.ref b] s) 88 2324 (wL cB cI cJ cZ u st tv mo ms).flatten [(0, .ref b), (1, .ref (u 0 0)), (2, .ref (mo 0)), (3, .int (nI j))] 523 [] := by
  obtain ⟨r, r2, st2, ms2, h1, h2, hJ⟩ := hs.2.2.2.2.2.2.2.2.2.2.2.1 (xs ((nI j) + 1).toNatClampNeg) (xs ((nI j) + 2).toNatClampNeg) (xs ((nI j) + 3).toNatClampNeg) (xs ((nI j) + 4).toNatClampNeg)
  refine omap h2 (fun q2 hq2 he2 => ?_)
  obtain ⟨rfl, rfl⟩ := Prod.mk.inj he2
  clear h2 he2
  refine omap h1 (fun q hq he => ?_)
  obtain ⟨rfl, rfl⟩ := Prod.mk.inj he
  clear h1 he
  refine g_aln cx 1 dL_law_523 rfl ?_
  refine g_aln cx 0 dL_law_524 rfl ?_
  refine g_iln cx 3 dL_law_525 rfl ?_
  refine g_ic cx dL_law_526 k_ic1 ?_
  refine g_iadd cx dL_law_527 ?_
  refine g_sld cx hX hbl (Nat.not_le.mpr hbl) (sc_in (c := 1) hj hL (by decide)) dL_law_528 ?_
  refine g_aln cx 0 dL_law_529 rfl ?_
  refine g_iln cx 3 dL_law_530 rfl ?_
  refine g_ic cx dL_law_531 k_ic2 ?_
  refine g_iadd cx dL_law_532 ?_
  refine g_sld cx hX hbl (Nat.not_le.mpr hbl) (sc_in (c := 2) hj hL (by decide)) dL_law_533 ?_
  refine g_aln cx 0 dL_law_534 rfl ?_
  refine g_iln cx 3 dL_law_535 rfl ?_
  refine g_ic cx dL_law_536 k_ic3 ?_
  refine g_iadd cx dL_law_537 ?_
  refine g_sld cx hX hbl (Nat.not_le.mpr hbl) (sc_in (c := 3) hj hL (by decide)) dL_law_538 ?_
  refine g_aln cx 0 dL_law_539 rfl ?_
  refine g_iln cx 3 dL_law_540 rfl ?_
  refine g_ic cx dL_law_541 k_ic4 ?_
  refine g_iadd cx dL_law_542 ?_
  refine g_sld cx hX hbl (Nat.not_le.mpr hbl) (sc_in (c := 4) hj hL (by decide)) dL_law_543 ?_
  refine g_callVGi (gs' := [gX11 (u 0) cB cI cJ cZ (u 1 0) (u 2 0) (u 3 0) (u 4 0) (u 5 0) (u 6 0) (u 8 0) (u 9 0) (.ref (u 10 0)) (.ref (u 15 0)) st.1, gX8 (u 1) cB cI cJ cZ st.2.1, gX9 (u 2) cB cI cJ cZ q.2, gX4 (u 3) cB cI cJ cZ st.2.2.2.1, gX3 (u 4) cB cI cJ cZ st.2.2.2.2.1, gX2 (u 5) cB cI cJ cZ st.2.2.2.2.2.1, gX0 (u 6) cB cI cJ cZ (u 7 0) tv st.2.2.2.2.2.2.1, gX4 (u 7) cB cI cJ cZ st.2.2.2.2.2.2.2.1, gX4 (u 8) cB cI cJ cZ st.2.2.2.2.2.2.2.2.1, gX4 (u 9) cB cI cJ cZ st.2.2.2.2.2.2.2.2.2.1, gX7 (u 10) cB cI cJ cZ (u 11 0) (u 12 0) (u 13 0) (u 14 0) st.2.2.2.2.2.2.2.2.2.2.1, gX10 (u 11) cB cI cJ cZ st.2.2.2.2.2.2.2.2.2.2.2.1, gX1 (u 12) cB cI cJ cZ st.2.2.2.2.2.2.2.2.2.2.2.2.1, gX4 (u 13) cB cI cJ cZ st.2.2.2.2.2.2.2.2.2.2.2.2.2.1, gX4 (u 14) cB cI cJ cZ st.2.2.2.2.2.2.2.2.2.2.2.2.2.2.1, gX7 (u 15) cB cI cJ cZ (u 16 0) (u 17 0) (u 18 0) (u 19 0) st.2.2.2.2.2.2.2.2.2.2.2.2.2.2.2.1, gX10 (u 16) cB cI cJ cZ st.2.2.2.2.2.2.2.2.2.2.2.2.2.2.2.2.1, gX1 (u 17) cB cI cJ cZ st.2.2.2.2.2.2.2.2.2.2.2.2.2.2.2.2.2.1, gX4 (u 18) cB cI cJ cZ st.2.2.2.2.2.2.2.2.2.2.2.2.2.2.2.2.2.2.1, gX4 (u 19) cB cI cJ cZ st.2.2.2.2.2.2.2.2.2.2.2.2.2.2.2.2.2.2.2, wX12 mo cB cI cJ cZ ms]) cx lk_RL_64 (c_X11_judged l D cB cI cJ cZ (u 0) (u 10) (u 2) (u 12) (u 13) (u 11) (u 1) (u 3) (u 4) (u 5) (u 6) (u 8) (u 9) (u 15) (u 14) (st.1) (st.2.2.2.2.2.2.2.2.2.2.1) (st.2.2.1) (st.2.2.2.2.2.2.2.2.2.2.2.2.1) (st.2.2.2.2.2.2.2.2.2.2.2.2.2.1) (st.2.2.2.2.2.2.2.2.2.2.2.1) (xs ((nI j) + 1).toNatClampNeg) (xs ((nI j) + 2).toNatClampNeg) (xs ((nI j) + 3).toNatClampNeg) (xs ((nI j) + 4).toNatClampNeg) q hq) rfl [0, 10, 2, 12, 13, 11] rfl rfl rfl rfl (ci := 9) (q1 := 0) rfl rfl rfl (Nat.le_of_ble_eq_true rfl) ⟨rfl, rfl, Nat.le_of_ble_eq_true rfl, Nat.le_of_ble_eq_true rfl⟩ dL_law_544 ?_
  refine g_pop cx dL_law_547 rfl ?_
  refine g_aln cx 2 dL_law_548 rfl ?_
  refine g_aln cx 0 dL_law_549 rfl ?_
  refine g_iln cx 3 dL_law_550 rfl ?_
  refine g_ic cx dL_law_551 k_ic1 ?_
  refine g_iadd cx dL_law_552 ?_
  refine g_sld cx hX hbl (Nat.not_le.mpr hbl) (sc_in (c := 1) hj hL (by decide)) dL_law_553 ?_
  refine g_aln cx 0 dL_law_554 rfl ?_
  refine g_iln cx 3 dL_law_555 rfl ?_
  refine g_ic cx dL_law_556 k_ic2 ?_
  refine g_iadd cx dL_law_557 ?_
  refine g_sld cx hX hbl (Nat.not_le.mpr hbl) (sc_in (c := 2) hj hL (by decide)) dL_law_558 ?_
  refine g_aln cx 0 dL_law_559 rfl ?_
  refine g_iln cx 3 dL_law_560 rfl ?_
  refine g_ic cx dL_law_561 k_ic3 ?_
  refine g_iadd cx dL_law_562 ?_
  refine g_sld cx hX hbl (Nat.not_le.mpr hbl) (sc_in (c := 3) hj hL (by decide)) dL_law_563 ?_
  refine g_aln cx 0 dL_law_564 rfl ?_
  refine g_iln cx 3 dL_law_565 rfl ?_
  refine g_ic cx dL_law_566 k_ic4 ?_
  refine g_iadd cx dL_law_567 ?_
  refine g_sld cx hX hbl (Nat.not_le.mpr hbl) (sc_in (c := 4) hj hL (by decide)) dL_law_568 ?_
  refine g_callVGi (gc := [wX12 mo cB cI cJ cZ ms]) (g1 := [wX12 mo cB cI cJ cZ q2.2]) (gs' := [gX11 (u 0) cB cI cJ cZ (u 1 0) (u 2 0) (u 3 0) (u 4 0) (u 5 0) (u 6 0) (u 8 0) (u 9 0) (.ref (u 10 0)) (.ref (u 15 0)) st.1, gX8 (u 1) cB cI cJ cZ st.2.1, gX9 (u 2) cB cI cJ cZ q.2, gX4 (u 3) cB cI cJ cZ st.2.2.2.1, gX3 (u 4) cB cI cJ cZ st.2.2.2.2.1, gX2 (u 5) cB cI cJ cZ st.2.2.2.2.2.1, gX0 (u 6) cB cI cJ cZ (u 7 0) tv st.2.2.2.2.2.2.1, gX4 (u 7) cB cI cJ cZ st.2.2.2.2.2.2.2.1, gX4 (u 8) cB cI cJ cZ st.2.2.2.2.2.2.2.2.1, gX4 (u 9) cB cI cJ cZ st.2.2.2.2.2.2.2.2.2.1, gX7 (u 10) cB cI cJ cZ (u 11 0) (u 12 0) (u 13 0) (u 14 0) st.2.2.2.2.2.2.2.2.2.2.1, gX10 (u 11) cB cI cJ cZ st.2.2.2.2.2.2.2.2.2.2.2.1, gX1 (u 12) cB cI cJ cZ st.2.2.2.2.2.2.2.2.2.2.2.2.1, gX4 (u 13) cB cI cJ cZ st.2.2.2.2.2.2.2.2.2.2.2.2.2.1, gX4 (u 14) cB cI cJ cZ st.2.2.2.2.2.2.2.2.2.2.2.2.2.2.1, gX7 (u 15) cB cI cJ cZ (u 16 0) (u 17 0) (u 18 0) (u 19 0) st.2.2.2.2.2.2.2.2.2.2.2.2.2.2.2.1, gX10 (u 16) cB cI cJ cZ st.2.2.2.2.2.2.2.2.2.2.2.2.2.2.2.2.1, gX1 (u 17) cB cI cJ cZ st.2.2.2.2.2.2.2.2.2.2.2.2.2.2.2.2.2.1, gX4 (u 18) cB cI cJ cZ st.2.2.2.2.2.2.2.2.2.2.2.2.2.2.2.2.2.2.1, gX4 (u 19) cB cI cJ cZ st.2.2.2.2.2.2.2.2.2.2.2.2.2.2.2.2.2.2.2, wX12 mo cB cI cJ cZ q2.2]) cx lk_RL_67 (gm_one (c_X12_judged l D cB cI cJ cZ mo ms (xs ((nI j) + 1).toNatClampNeg) (xs ((nI j) + 2).toNatClampNeg) (xs ((nI j) + 3).toNatClampNeg) (xs ((nI j) + 4).toNatClampNeg) q2 hq2)) rfl [20] rfl rfl rfl rfl (ci := 10) (q1 := 0) rfl rfl rfl (Nat.le_of_ble_eq_true rfl) ⟨rfl, rfl, Nat.le_of_ble_eq_true rfl, Nat.le_of_ble_eq_true rfl⟩ dL_law_569 ?_
  refine g_pop cx dL_law_572 rfl ?_
  refine g_goto (tgt := 1104) cx dL_law_573 rfl ?_
  exact kk u mo (st.1, st.2.1, q.2, st.2.2.2.1, st.2.2.2.2.1, st.2.2.2.2.2.1, st.2.2.2.2.2.2.1, st.2.2.2.2.2.2.2.1, st.2.2.2.2.2.2.2.2.1, st.2.2.2.2.2.2.2.2.2.1, st.2.2.2.2.2.2.2.2.2.2.1, st.2.2.2.2.2.2.2.2.2.2.2.1, st.2.2.2.2.2.2.2.2.2.2.2.2.1, st.2.2.2.2.2.2.2.2.2.2.2.2.2.1, st.2.2.2.2.2.2.2.2.2.2.2.2.2.2.1, st.2.2.2.2.2.2.2.2.2.2.2.2.2.2.2.1, st.2.2.2.2.2.2.2.2.2.2.2.2.2.2.2.2.1, st.2.2.2.2.2.2.2.2.2.2.2.2.2.2.2.2.2.1, st.2.2.2.2.2.2.2.2.2.2.2.2.2.2.2.2.2.2.1, st.2.2.2.2.2.2.2.2.2.2.2.2.2.2.2.2.2.2.2) tv (q2.2) hJ
set_option maxHeartbeats 4000000 in
set_option maxRecDepth 100000 in
theorem lwc_law {p : Program} {l : Launch} {e : Env} {s : State} {m : MethodId} {below : List Frame} {meth : Method} {c : Code} {D : gG} {cB cI cJ cZ : ClassId} {b L : Nat} {xs : Nat → Int32} {J2 : SX → SM → Prop} (cx : gX p s m #[Value.ref b] meth c cL_law 4 RL D (tyL cB cI cJ cZ) (fun q => s.heap.size ≤ q)) (hX : va_X b L xs s s.heap) (hbl : b < s.heap.size) {j : Nat} (hj : j + 5 ≤ L) (hL : L ≤ 2560) {u : Nat → Nat → Nat} {st : SX} {tv : Value} {mo : Nat → Nat} {ms : SM} (hs : StepOK J2 st ms) (kk : ∀ (u : Nat → Nat → Nat) (mo : Nat → Nat) (st : SX) (tv : Value) (ms : SM), J2 st ms → gW p l e room_1 s m #[Value.ref b] below meth c D (fun q => s.heap.size ≤ q) 4 (lw_Z below #[Value.ref b] s) 88 2324 (wL cB cI cJ cZ u st tv mo ms).flatten [(0, .ref b), (1, .ref (u 0 0)), (2, .ref (mo 0)), (3, .int (nI j))] 1104 []) : gW p l e room_1 s m #[Value.ref b] below meth c D (fun q => s.heap.size ≤ q) 4 (lw_Z below #[Value.ref b] s) 88 2324 (wL cB cI cJ cZ u st tv mo ms).flatten [(0, .ref b), (1, .ref (u 0 0)), (2, .ref (mo 0)), (3, .int (nI j))] 576 [] := by
  obtain ⟨r, r2, st2, ms2, h1, h2, hJ⟩ := hs.2.2.2.2.2.2.2.2.2.2.2.2.1 (xs ((nI j) + 1).toNatClampNeg) (xs ((nI j) + 2).toNatClampNeg)
  refine omap h2 (fun q2 hq2 he2 => ?_)
  obtain ⟨rfl, rfl⟩ := Prod.mk.inj he2
  clear h2 he2
  refine omap h1 (fun q hq he => ?_)
  obtain ⟨rfl, rfl⟩ := Prod.mk.inj he
  clear h1 he
  refine g_aln cx 1 dL_law_576 rfl ?_
  refine g_aln cx 0 dL_law_577 rfl ?_
  refine g_iln cx 3 dL_law_578 rfl ?_
  refine g_ic cx dL_law_579 k_ic1 ?_
  refine g_iadd cx dL_law_580 ?_
  refine g_sld cx hX hbl (Nat.not_le.mpr hbl) (sc_in (c := 1) hj hL (by decide)) dL_law_581 ?_
  refine g_aln cx 0 dL_law_582 rfl ?_
  refine g_iln cx 3 dL_law_583 rfl ?_
  refine g_ic cx dL_law_584 k_ic2 ?_
  refine g_iadd cx dL_law_585 ?_
  refine g_sld cx hX hbl (Nat.not_le.mpr hbl) (sc_in (c := 2) hj hL (by decide)) dL_law_586 ?_
  refine g_callVGi (gs' := [gX11 (u 0) cB cI cJ cZ (u 1 0) (u 2 0) (u 3 0) (u 4 0) (u 5 0) (u 6 0) (u 8 0) (u 9 0) (.ref (u 10 0)) (.ref (u 15 0)) st.1, gX8 (u 1) cB cI cJ cZ st.2.1, gX9 (u 2) cB cI cJ cZ q.2, gX4 (u 3) cB cI cJ cZ st.2.2.2.1, gX3 (u 4) cB cI cJ cZ st.2.2.2.2.1, gX2 (u 5) cB cI cJ cZ st.2.2.2.2.2.1, gX0 (u 6) cB cI cJ cZ (u 7 0) tv st.2.2.2.2.2.2.1, gX4 (u 7) cB cI cJ cZ st.2.2.2.2.2.2.2.1, gX4 (u 8) cB cI cJ cZ st.2.2.2.2.2.2.2.2.1, gX4 (u 9) cB cI cJ cZ st.2.2.2.2.2.2.2.2.2.1, gX7 (u 10) cB cI cJ cZ (u 11 0) (u 12 0) (u 13 0) (u 14 0) st.2.2.2.2.2.2.2.2.2.2.1, gX10 (u 11) cB cI cJ cZ st.2.2.2.2.2.2.2.2.2.2.2.1, gX1 (u 12) cB cI cJ cZ st.2.2.2.2.2.2.2.2.2.2.2.2.1, gX4 (u 13) cB cI cJ cZ st.2.2.2.2.2.2.2.2.2.2.2.2.2.1, gX4 (u 14) cB cI cJ cZ st.2.2.2.2.2.2.2.2.2.2.2.2.2.2.1, gX7 (u 15) cB cI cJ cZ (u 16 0) (u 17 0) (u 18 0) (u 19 0) st.2.2.2.2.2.2.2.2.2.2.2.2.2.2.2.1, gX10 (u 16) cB cI cJ cZ st.2.2.2.2.2.2.2.2.2.2.2.2.2.2.2.2.1, gX1 (u 17) cB cI cJ cZ st.2.2.2.2.2.2.2.2.2.2.2.2.2.2.2.2.2.1, gX4 (u 18) cB cI cJ cZ st.2.2.2.2.2.2.2.2.2.2.2.2.2.2.2.2.2.2.1, gX4 (u 19) cB cI cJ cZ st.2.2.2.2.2.2.2.2.2.2.2.2.2.2.2.2.2.2.2, wX12 mo cB cI cJ cZ ms]) cx lk_RL_68 (c_X11_law l D cB cI cJ cZ (u 0) (u 10) (u 2) (u 12) (u 13) (u 11) (u 1) (u 3) (u 4) (u 5) (u 6) (u 8) (u 9) (u 15) (u 14) (st.1) (st.2.2.2.2.2.2.2.2.2.2.1) (st.2.2.1) (st.2.2.2.2.2.2.2.2.2.2.2.2.1) (st.2.2.2.2.2.2.2.2.2.2.2.2.2.1) (st.2.2.2.2.2.2.2.2.2.2.2.1) (xs ((nI j) + 1).toNatClampNeg) (xs ((nI j) + 2).toNatClampNeg) q hq) rfl [0, 10, 2, 12, 13, 11] rfl rfl rfl rfl (ci := 9) (q1 := 0) rfl rfl rfl (Nat.le_of_ble_eq_true rfl) ⟨rfl, rfl, Nat.le_of_ble_eq_true rfl, Nat.le_of_ble_eq_true rfl⟩ dL_law_587 ?_
  refine g_pop cx dL_law_590 rfl ?_
  refine g_aln cx 2 dL_law_591 rfl ?_
  refine g_aln cx 0 dL_law_592 rfl ?_
  refine g_iln cx 3 dL_law_593 rfl ?_
  refine g_ic cx dL_law_594 k_ic1 ?_
  refine g_iadd cx dL_law_595 ?_
  refine g_sld cx hX hbl (Nat.not_le.mpr hbl) (sc_in (c := 1) hj hL (by decide)) dL_law_596 ?_
  refine g_aln cx 0 dL_law_597 rfl ?_
  refine g_iln cx 3 dL_law_598 rfl ?_
  refine g_ic cx dL_law_599 k_ic2 ?_
  refine g_iadd cx dL_law_600 ?_
  refine g_sld cx hX hbl (Nat.not_le.mpr hbl) (sc_in (c := 2) hj hL (by decide)) dL_law_601 ?_
  refine g_callVGi (gc := [wX12 mo cB cI cJ cZ ms]) (g1 := [wX12 mo cB cI cJ cZ q2.2]) (gs' := [gX11 (u 0) cB cI cJ cZ (u 1 0) (u 2 0) (u 3 0) (u 4 0) (u 5 0) (u 6 0) (u 8 0) (u 9 0) (.ref (u 10 0)) (.ref (u 15 0)) st.1, gX8 (u 1) cB cI cJ cZ st.2.1, gX9 (u 2) cB cI cJ cZ q.2, gX4 (u 3) cB cI cJ cZ st.2.2.2.1, gX3 (u 4) cB cI cJ cZ st.2.2.2.2.1, gX2 (u 5) cB cI cJ cZ st.2.2.2.2.2.1, gX0 (u 6) cB cI cJ cZ (u 7 0) tv st.2.2.2.2.2.2.1, gX4 (u 7) cB cI cJ cZ st.2.2.2.2.2.2.2.1, gX4 (u 8) cB cI cJ cZ st.2.2.2.2.2.2.2.2.1, gX4 (u 9) cB cI cJ cZ st.2.2.2.2.2.2.2.2.2.1, gX7 (u 10) cB cI cJ cZ (u 11 0) (u 12 0) (u 13 0) (u 14 0) st.2.2.2.2.2.2.2.2.2.2.1, gX10 (u 11) cB cI cJ cZ st.2.2.2.2.2.2.2.2.2.2.2.1, gX1 (u 12) cB cI cJ cZ st.2.2.2.2.2.2.2.2.2.2.2.2.1, gX4 (u 13) cB cI cJ cZ st.2.2.2.2.2.2.2.2.2.2.2.2.2.1, gX4 (u 14) cB cI cJ cZ st.2.2.2.2.2.2.2.2.2.2.2.2.2.2.1, gX7 (u 15) cB cI cJ cZ (u 16 0) (u 17 0) (u 18 0) (u 19 0) st.2.2.2.2.2.2.2.2.2.2.2.2.2.2.2.1, gX10 (u 16) cB cI cJ cZ st.2.2.2.2.2.2.2.2.2.2.2.2.2.2.2.2.1, gX1 (u 17) cB cI cJ cZ st.2.2.2.2.2.2.2.2.2.2.2.2.2.2.2.2.2.1, gX4 (u 18) cB cI cJ cZ st.2.2.2.2.2.2.2.2.2.2.2.2.2.2.2.2.2.2.1, gX4 (u 19) cB cI cJ cZ st.2.2.2.2.2.2.2.2.2.2.2.2.2.2.2.2.2.2.2, wX12 mo cB cI cJ cZ q2.2]) cx lk_RL_71 (gm_one (c_X12_law l D cB cI cJ cZ mo ms (xs ((nI j) + 1).toNatClampNeg) (xs ((nI j) + 2).toNatClampNeg) q2 hq2)) rfl [20] rfl rfl rfl rfl (ci := 10) (q1 := 0) rfl rfl rfl (Nat.le_of_ble_eq_true rfl) ⟨rfl, rfl, Nat.le_of_ble_eq_true rfl, Nat.le_of_ble_eq_true rfl⟩ dL_law_602 ?_
  refine g_pop cx dL_law_605 rfl ?_
  refine g_goto (tgt := 1104) cx dL_law_606 rfl ?_
  exact kk u mo (st.1, st.2.1, q.2, st.2.2.2.1, st.2.2.2.2.1, st.2.2.2.2.2.1, st.2.2.2.2.2.2.1, st.2.2.2.2.2.2.2.1, st.2.2.2.2.2.2.2.2.1, st.2.2.2.2.2.2.2.2.2.1, st.2.2.2.2.2.2.2.2.2.2.1, st.2.2.2.2.2.2.2.2.2.2.2.1, st.2.2.2.2.2.2.2.2.2.2.2.2.1, st.2.2.2.2.2.2.2.2.2.2.2.2.2.1, st.2.2.2.2.2.2.2.2.2.2.2.2.2.2.1, st.2.2.2.2.2.2.2.2.2.2.2.2.2.2.2.1, st.2.2.2.2.2.2.2.2.2.2.2.2.2.2.2.2.1, st.2.2.2.2.2.2.2.2.2.2.2.2.2.2.2.2.2.1, st.2.2.2.2.2.2.2.2.2.2.2.2.2.2.2.2.2.2.1, st.2.2.2.2.2.2.2.2.2.2.2.2.2.2.2.2.2.2.2) tv (q2.2) hJ
set_option maxHeartbeats 4000000 in
set_option maxRecDepth 100000 in
theorem lwc_empty {p : Program} {l : Launch} {e : Env} {s : State} {m : MethodId} {below : List Frame} {meth : Method} {c : Code} {D : gG} {cB cI cJ cZ : ClassId} {b L : Nat} {xs : Nat → Int32} {J2 : SX → SM → Prop} (cx : gX p s m #[Value.ref b] meth c cL_law 4 RL D (tyL cB cI cJ cZ) (fun q => s.heap.size ≤ q)) (hX : va_X b L xs s s.heap) (hbl : b < s.heap.size) {j : Nat} (hj : j + 5 ≤ L) (hL : L ≤ 2560) {u : Nat → Nat → Nat} {st : SX} {tv : Value} {mo : Nat → Nat} {ms : SM} (hs : StepOK J2 st ms) (kk : ∀ (u : Nat → Nat → Nat) (mo : Nat → Nat) (st : SX) (tv : Value) (ms : SM), J2 st ms → gW p l e room_1 s m #[Value.ref b] below meth c D (fun q => s.heap.size ≤ q) 4 (lw_Z below #[Value.ref b] s) 88 2324 (wL cB cI cJ cZ u st tv mo ms).flatten [(0, .ref b), (1, .ref (u 0 0)), (2, .ref (mo 0)), (3, .int (nI j))] 1104 []) : gW p l e room_1 s m #[Value.ref b] below meth c D (fun q => s.heap.size ≤ q) 4 (lw_Z below #[Value.ref b] s) 88 2324 (wL cB cI cJ cZ u st tv mo ms).flatten [(0, .ref b), (1, .ref (u 0 0)), (2, .ref (mo 0)), (3, .int (nI j))] 609 [] := by
  obtain ⟨r, r2, st2, ms2, h1, h2, hJ⟩ := hs.2.2.2.2.2.2.2.2.2.2.2.2.2.1 (xs ((nI j) + 1).toNatClampNeg) (xs ((nI j) + 2).toNatClampNeg)
  refine omap h2 (fun q2 hq2 he2 => ?_)
  obtain ⟨rfl, rfl⟩ := Prod.mk.inj he2
  clear h2 he2
  refine omap h1 (fun q hq he => ?_)
  obtain ⟨rfl, rfl⟩ := Prod.mk.inj he
  clear h1 he
  refine g_aln cx 1 dL_law_609 rfl ?_
  refine g_aln cx 0 dL_law_610 rfl ?_
  refine g_iln cx 3 dL_law_611 rfl ?_
  refine g_ic cx dL_law_612 k_ic1 ?_
  refine g_iadd cx dL_law_613 ?_
  refine g_sld cx hX hbl (Nat.not_le.mpr hbl) (sc_in (c := 1) hj hL (by decide)) dL_law_614 ?_
  refine g_aln cx 0 dL_law_615 rfl ?_
  refine g_iln cx 3 dL_law_616 rfl ?_
  refine g_ic cx dL_law_617 k_ic2 ?_
  refine g_iadd cx dL_law_618 ?_
  refine g_sld cx hX hbl (Nat.not_le.mpr hbl) (sc_in (c := 2) hj hL (by decide)) dL_law_619 ?_
  refine g_callVGi (gs' := [gX11 (u 0) cB cI cJ cZ (u 1 0) (u 2 0) (u 3 0) (u 4 0) (u 5 0) (u 6 0) (u 8 0) (u 9 0) (.ref (u 10 0)) (.ref (u 15 0)) st.1, gX8 (u 1) cB cI cJ cZ st.2.1, gX9 (u 2) cB cI cJ cZ q.2, gX4 (u 3) cB cI cJ cZ st.2.2.2.1, gX3 (u 4) cB cI cJ cZ st.2.2.2.2.1, gX2 (u 5) cB cI cJ cZ st.2.2.2.2.2.1, gX0 (u 6) cB cI cJ cZ (u 7 0) tv st.2.2.2.2.2.2.1, gX4 (u 7) cB cI cJ cZ st.2.2.2.2.2.2.2.1, gX4 (u 8) cB cI cJ cZ st.2.2.2.2.2.2.2.2.1, gX4 (u 9) cB cI cJ cZ st.2.2.2.2.2.2.2.2.2.1, gX7 (u 10) cB cI cJ cZ (u 11 0) (u 12 0) (u 13 0) (u 14 0) st.2.2.2.2.2.2.2.2.2.2.1, gX10 (u 11) cB cI cJ cZ st.2.2.2.2.2.2.2.2.2.2.2.1, gX1 (u 12) cB cI cJ cZ st.2.2.2.2.2.2.2.2.2.2.2.2.1, gX4 (u 13) cB cI cJ cZ st.2.2.2.2.2.2.2.2.2.2.2.2.2.1, gX4 (u 14) cB cI cJ cZ st.2.2.2.2.2.2.2.2.2.2.2.2.2.2.1, gX7 (u 15) cB cI cJ cZ (u 16 0) (u 17 0) (u 18 0) (u 19 0) st.2.2.2.2.2.2.2.2.2.2.2.2.2.2.2.1, gX10 (u 16) cB cI cJ cZ st.2.2.2.2.2.2.2.2.2.2.2.2.2.2.2.2.1, gX1 (u 17) cB cI cJ cZ st.2.2.2.2.2.2.2.2.2.2.2.2.2.2.2.2.2.1, gX4 (u 18) cB cI cJ cZ st.2.2.2.2.2.2.2.2.2.2.2.2.2.2.2.2.2.2.1, gX4 (u 19) cB cI cJ cZ st.2.2.2.2.2.2.2.2.2.2.2.2.2.2.2.2.2.2.2, wX12 mo cB cI cJ cZ ms]) cx lk_RL_72 (c_X11_empty l D cB cI cJ cZ (u 0) (u 10) (u 2) (u 12) (u 13) (u 11) (u 1) (u 3) (u 4) (u 5) (u 6) (u 8) (u 9) (u 15) (u 14) (st.1) (st.2.2.2.2.2.2.2.2.2.2.1) (st.2.2.1) (st.2.2.2.2.2.2.2.2.2.2.2.2.1) (st.2.2.2.2.2.2.2.2.2.2.2.2.2.1) (st.2.2.2.2.2.2.2.2.2.2.2.1) (xs ((nI j) + 1).toNatClampNeg) (xs ((nI j) + 2).toNatClampNeg) q hq) rfl [0, 10, 2, 12, 13, 11] rfl rfl rfl rfl (ci := 9) (q1 := 0) rfl rfl rfl (Nat.le_of_ble_eq_true rfl) ⟨rfl, rfl, Nat.le_of_ble_eq_true rfl, Nat.le_of_ble_eq_true rfl⟩ dL_law_620 ?_
  refine g_pop cx dL_law_623 rfl ?_
  refine g_aln cx 2 dL_law_624 rfl ?_
  refine g_aln cx 0 dL_law_625 rfl ?_
  refine g_iln cx 3 dL_law_626 rfl ?_
  refine g_ic cx dL_law_627 k_ic1 ?_
  refine g_iadd cx dL_law_628 ?_
  refine g_sld cx hX hbl (Nat.not_le.mpr hbl) (sc_in (c := 1) hj hL (by decide)) dL_law_629 ?_
  refine g_aln cx 0 dL_law_630 rfl ?_
  refine g_iln cx 3 dL_law_631 rfl ?_
  refine g_ic cx dL_law_632 k_ic2 ?_
  refine g_iadd cx dL_law_633 ?_
  refine g_sld cx hX hbl (Nat.not_le.mpr hbl) (sc_in (c := 2) hj hL (by decide)) dL_law_634 ?_
  refine g_callVGi (gc := [wX12 mo cB cI cJ cZ ms]) (g1 := [wX12 mo cB cI cJ cZ q2.2]) (gs' := [gX11 (u 0) cB cI cJ cZ (u 1 0) (u 2 0) (u 3 0) (u 4 0) (u 5 0) (u 6 0) (u 8 0) (u 9 0) (.ref (u 10 0)) (.ref (u 15 0)) st.1, gX8 (u 1) cB cI cJ cZ st.2.1, gX9 (u 2) cB cI cJ cZ q.2, gX4 (u 3) cB cI cJ cZ st.2.2.2.1, gX3 (u 4) cB cI cJ cZ st.2.2.2.2.1, gX2 (u 5) cB cI cJ cZ st.2.2.2.2.2.1, gX0 (u 6) cB cI cJ cZ (u 7 0) tv st.2.2.2.2.2.2.1, gX4 (u 7) cB cI cJ cZ st.2.2.2.2.2.2.2.1, gX4 (u 8) cB cI cJ cZ st.2.2.2.2.2.2.2.2.1, gX4 (u 9) cB cI cJ cZ st.2.2.2.2.2.2.2.2.2.1, gX7 (u 10) cB cI cJ cZ (u 11 0) (u 12 0) (u 13 0) (u 14 0) st.2.2.2.2.2.2.2.2.2.2.1, gX10 (u 11) cB cI cJ cZ st.2.2.2.2.2.2.2.2.2.2.2.1, gX1 (u 12) cB cI cJ cZ st.2.2.2.2.2.2.2.2.2.2.2.2.1, gX4 (u 13) cB cI cJ cZ st.2.2.2.2.2.2.2.2.2.2.2.2.2.1, gX4 (u 14) cB cI cJ cZ st.2.2.2.2.2.2.2.2.2.2.2.2.2.2.1, gX7 (u 15) cB cI cJ cZ (u 16 0) (u 17 0) (u 18 0) (u 19 0) st.2.2.2.2.2.2.2.2.2.2.2.2.2.2.2.1, gX10 (u 16) cB cI cJ cZ st.2.2.2.2.2.2.2.2.2.2.2.2.2.2.2.2.1, gX1 (u 17) cB cI cJ cZ st.2.2.2.2.2.2.2.2.2.2.2.2.2.2.2.2.2.1, gX4 (u 18) cB cI cJ cZ st.2.2.2.2.2.2.2.2.2.2.2.2.2.2.2.2.2.2.1, gX4 (u 19) cB cI cJ cZ st.2.2.2.2.2.2.2.2.2.2.2.2.2.2.2.2.2.2.2, wX12 mo cB cI cJ cZ q2.2]) cx lk_RL_75 (gm_one (c_X12_empty l D cB cI cJ cZ mo ms (xs ((nI j) + 1).toNatClampNeg) (xs ((nI j) + 2).toNatClampNeg) q2 hq2)) rfl [20] rfl rfl rfl rfl (ci := 10) (q1 := 0) rfl rfl rfl (Nat.le_of_ble_eq_true rfl) ⟨rfl, rfl, Nat.le_of_ble_eq_true rfl, Nat.le_of_ble_eq_true rfl⟩ dL_law_635 ?_
  refine g_pop cx dL_law_638 rfl ?_
  refine g_goto (tgt := 1104) cx dL_law_639 rfl ?_
  exact kk u mo (st.1, st.2.1, q.2, st.2.2.2.1, st.2.2.2.2.1, st.2.2.2.2.2.1, st.2.2.2.2.2.2.1, st.2.2.2.2.2.2.2.1, st.2.2.2.2.2.2.2.2.1, st.2.2.2.2.2.2.2.2.2.1, st.2.2.2.2.2.2.2.2.2.2.1, st.2.2.2.2.2.2.2.2.2.2.2.1, st.2.2.2.2.2.2.2.2.2.2.2.2.1, st.2.2.2.2.2.2.2.2.2.2.2.2.2.1, st.2.2.2.2.2.2.2.2.2.2.2.2.2.2.1, st.2.2.2.2.2.2.2.2.2.2.2.2.2.2.2.1, st.2.2.2.2.2.2.2.2.2.2.2.2.2.2.2.2.1, st.2.2.2.2.2.2.2.2.2.2.2.2.2.2.2.2.2.1, st.2.2.2.2.2.2.2.2.2.2.2.2.2.2.2.2.2.2.1, st.2.2.2.2.2.2.2.2.2.2.2.2.2.2.2.2.2.2.2) tv (q2.2) hJ
