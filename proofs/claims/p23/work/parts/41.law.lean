set_option maxHeartbeats 4000000 in
set_option maxRecDepth 100000 in
theorem lwc_bound {p : Program} {l : Launch} {e : Env} {s : State} {m : MethodId} {below : List Frame} {meth : Method} {c : Code} {D : gG} {cB cI cJ cZ : ClassId} {b L : Nat} {xs : Nat → Int32} {J2 : SX → SM → Prop} (cx : gX p s m #[Value.ref b] meth c cL_law 4 RL D (tyL cB cI cJ cZ) (fun q => s.heap.size ≤ q)) (hX : va_X b L xs s s.heap) (hbl : b < s.heap.size) {j : Nat} (hj : j + 5 ≤ L) (hL : L ≤ 2560) {u : Nat → Nat → Nat} {st : SX} {tv : Value} {mo : Nat → Nat} {ms : SM} (hs : StepOK J2 st ms) (kk : ∀ (u : Nat → Nat → Nat) (mo : Nat → Nat) (st : SX) (tv : Value) (ms : SM), J2 st ms → gW p l e room_1 s m #[Value.ref b] below meth c D (fun q => s.heap.size ≤ q) 4 (lw_Z below #[Value.ref b] s) 88 2324 (wL cB cI cJ cZ u st tv mo ms).flatten [(0, .ref b), (1, .ref (u 0 0)), (2, .ref (mo 0)), (3, .int (nI j))] 1104 []) : gW p l e room_1 s m #[Value.ref b] below meth c D (fun q => s.heap.size ≤ q) 4 (lw_Z below #[Value.ref b] s) 88 2324 (wL cB cI cJ cZ u st tv mo ms).flatten [(0, .ref b), (1, .ref (u 0 0)), (2, .ref (mo 0)), (3, .int (nI j))] 642 [] := by
  obtain ⟨r, r2, st2, ms2, h1, h2, hJ⟩ := hs.2.2.2.2.2.2.2.2.2.2.2.2.2.2.1 (xs ((nI j) + 1).toNatClampNeg) (xs ((nI j) + 2).toNatClampNeg)
  refine omap h2 (fun q2 hq2 he2 => ?_)
  obtain ⟨rfl, rfl⟩ := Prod.mk.inj he2
  clear h2 he2
  refine omap h1 (fun q hq he => ?_)
  obtain ⟨rfl, rfl⟩ := Prod.mk.inj he
  clear h1 he
  refine g_aln cx 1 dL_law_642 rfl ?_
  refine g_aln cx 0 dL_law_643 rfl ?_
  refine g_iln cx 3 dL_law_644 rfl ?_
  refine g_ic cx dL_law_645 k_ic1 ?_
  refine g_iadd cx dL_law_646 ?_
  refine g_sld cx hX hbl (Nat.not_le.mpr hbl) (sc_in (c := 1) hj hL (by decide)) dL_law_647 ?_
  refine g_aln cx 0 dL_law_648 rfl ?_
  refine g_iln cx 3 dL_law_649 rfl ?_
  refine g_ic cx dL_law_650 k_ic2 ?_
  refine g_iadd cx dL_law_651 ?_
  refine g_sld cx hX hbl (Nat.not_le.mpr hbl) (sc_in (c := 2) hj hL (by decide)) dL_law_652 ?_
  refine g_callVGi (gs' := [gX11 (u 0) cB cI cJ cZ (u 1 0) (u 2 0) (u 3 0) (u 4 0) (u 5 0) (u 6 0) (u 8 0) (u 9 0) (.ref (u 10 0)) (.ref (u 15 0)) st.1, gX8 (u 1) cB cI cJ cZ st.2.1, gX9 (u 2) cB cI cJ cZ q.2, gX4 (u 3) cB cI cJ cZ st.2.2.2.1, gX3 (u 4) cB cI cJ cZ st.2.2.2.2.1, gX2 (u 5) cB cI cJ cZ st.2.2.2.2.2.1, gX0 (u 6) cB cI cJ cZ (u 7 0) tv st.2.2.2.2.2.2.1, gX4 (u 7) cB cI cJ cZ st.2.2.2.2.2.2.2.1, gX4 (u 8) cB cI cJ cZ st.2.2.2.2.2.2.2.2.1, gX4 (u 9) cB cI cJ cZ st.2.2.2.2.2.2.2.2.2.1, gX7 (u 10) cB cI cJ cZ (u 11 0) (u 12 0) (u 13 0) (u 14 0) st.2.2.2.2.2.2.2.2.2.2.1, gX10 (u 11) cB cI cJ cZ st.2.2.2.2.2.2.2.2.2.2.2.1, gX1 (u 12) cB cI cJ cZ st.2.2.2.2.2.2.2.2.2.2.2.2.1, gX4 (u 13) cB cI cJ cZ st.2.2.2.2.2.2.2.2.2.2.2.2.2.1, gX4 (u 14) cB cI cJ cZ st.2.2.2.2.2.2.2.2.2.2.2.2.2.2.1, gX7 (u 15) cB cI cJ cZ (u 16 0) (u 17 0) (u 18 0) (u 19 0) st.2.2.2.2.2.2.2.2.2.2.2.2.2.2.2.1, gX10 (u 16) cB cI cJ cZ st.2.2.2.2.2.2.2.2.2.2.2.2.2.2.2.2.1, gX1 (u 17) cB cI cJ cZ st.2.2.2.2.2.2.2.2.2.2.2.2.2.2.2.2.2.1, gX4 (u 18) cB cI cJ cZ st.2.2.2.2.2.2.2.2.2.2.2.2.2.2.2.2.2.2.1, gX4 (u 19) cB cI cJ cZ st.2.2.2.2.2.2.2.2.2.2.2.2.2.2.2.2.2.2.2, wX12 mo cB cI cJ cZ ms]) cx lk_RL_76 (c_X11_bound l D cB cI cJ cZ (u 0) (u 10) (u 2) (u 12) (u 13) (u 11) (u 1) (u 3) (u 4) (u 5) (u 6) (u 8) (u 9) (u 15) (u 14) (st.1) (st.2.2.2.2.2.2.2.2.2.2.1) (st.2.2.1) (st.2.2.2.2.2.2.2.2.2.2.2.2.1) (st.2.2.2.2.2.2.2.2.2.2.2.2.2.1) (st.2.2.2.2.2.2.2.2.2.2.2.1) (xs ((nI j) + 1).toNatClampNeg) (xs ((nI j) + 2).toNatClampNeg) q hq) rfl [0, 10, 2, 12, 13, 11] rfl rfl rfl rfl (ci := 9) (q1 := 0) rfl rfl rfl (Nat.le_of_ble_eq_true rfl) ⟨rfl, rfl, Nat.le_of_ble_eq_true rfl, Nat.le_of_ble_eq_true rfl⟩ dL_law_653 ?_
  refine g_pop cx dL_law_656 rfl ?_
  refine g_aln cx 2 dL_law_657 rfl ?_
  refine g_aln cx 0 dL_law_658 rfl ?_
  refine g_iln cx 3 dL_law_659 rfl ?_
  refine g_ic cx dL_law_660 k_ic1 ?_
  refine g_iadd cx dL_law_661 ?_
  refine g_sld cx hX hbl (Nat.not_le.mpr hbl) (sc_in (c := 1) hj hL (by decide)) dL_law_662 ?_
  refine g_aln cx 0 dL_law_663 rfl ?_
  refine g_iln cx 3 dL_law_664 rfl ?_
  refine g_ic cx dL_law_665 k_ic2 ?_
  refine g_iadd cx dL_law_666 ?_
  refine g_sld cx hX hbl (Nat.not_le.mpr hbl) (sc_in (c := 2) hj hL (by decide)) dL_law_667 ?_
  refine g_callVGi (gc := [wX12 mo cB cI cJ cZ ms]) (g1 := [wX12 mo cB cI cJ cZ q2.2]) (gs' := [gX11 (u 0) cB cI cJ cZ (u 1 0) (u 2 0) (u 3 0) (u 4 0) (u 5 0) (u 6 0) (u 8 0) (u 9 0) (.ref (u 10 0)) (.ref (u 15 0)) st.1, gX8 (u 1) cB cI cJ cZ st.2.1, gX9 (u 2) cB cI cJ cZ q.2, gX4 (u 3) cB cI cJ cZ st.2.2.2.1, gX3 (u 4) cB cI cJ cZ st.2.2.2.2.1, gX2 (u 5) cB cI cJ cZ st.2.2.2.2.2.1, gX0 (u 6) cB cI cJ cZ (u 7 0) tv st.2.2.2.2.2.2.1, gX4 (u 7) cB cI cJ cZ st.2.2.2.2.2.2.2.1, gX4 (u 8) cB cI cJ cZ st.2.2.2.2.2.2.2.2.1, gX4 (u 9) cB cI cJ cZ st.2.2.2.2.2.2.2.2.2.1, gX7 (u 10) cB cI cJ cZ (u 11 0) (u 12 0) (u 13 0) (u 14 0) st.2.2.2.2.2.2.2.2.2.2.1, gX10 (u 11) cB cI cJ cZ st.2.2.2.2.2.2.2.2.2.2.2.1, gX1 (u 12) cB cI cJ cZ st.2.2.2.2.2.2.2.2.2.2.2.2.1, gX4 (u 13) cB cI cJ cZ st.2.2.2.2.2.2.2.2.2.2.2.2.2.1, gX4 (u 14) cB cI cJ cZ st.2.2.2.2.2.2.2.2.2.2.2.2.2.2.1, gX7 (u 15) cB cI cJ cZ (u 16 0) (u 17 0) (u 18 0) (u 19 0) st.2.2.2.2.2.2.2.2.2.2.2.2.2.2.2.1, gX10 (u 16) cB cI cJ cZ st.2.2.2.2.2.2.2.2.2.2.2.2.2.2.2.2.1, gX1 (u 17) cB cI cJ cZ st.2.2.2.2.2.2.2.2.2.2.2.2.2.2.2.2.2.1, gX4 (u 18) cB cI cJ cZ st.2.2.2.2.2.2.2.2.2.2.2.2.2.2.2.2.2.2.1, gX4 (u 19) cB cI cJ cZ st.2.2.2.2.2.2.2.2.2.2.2.2.2.2.2.2.2.2.2, wX12 mo cB cI cJ cZ q2.2]) cx lk_RL_79 (gm_one (c_X12_bound l D cB cI cJ cZ mo ms (xs ((nI j) + 1).toNatClampNeg) (xs ((nI j) + 2).toNatClampNeg) q2 hq2)) rfl [20] rfl rfl rfl rfl (ci := 10) (q1 := 0) rfl rfl rfl (Nat.le_of_ble_eq_true rfl) ⟨rfl, rfl, Nat.le_of_ble_eq_true rfl, Nat.le_of_ble_eq_true rfl⟩ dL_law_668 ?_
  refine g_pop cx dL_law_671 rfl ?_
  refine g_goto (tgt := 1104) cx dL_law_672 rfl ?_
  exact kk u mo (st.1, st.2.1, q.2, st.2.2.2.1, st.2.2.2.2.1, st.2.2.2.2.2.1, st.2.2.2.2.2.2.1, st.2.2.2.2.2.2.2.1, st.2.2.2.2.2.2.2.2.1, st.2.2.2.2.2.2.2.2.2.1, st.2.2.2.2.2.2.2.2.2.2.1, st.2.2.2.2.2.2.2.2.2.2.2.1, st.2.2.2.2.2.2.2.2.2.2.2.2.1, st.2.2.2.2.2.2.2.2.2.2.2.2.2.1, st.2.2.2.2.2.2.2.2.2.2.2.2.2.2.1, st.2.2.2.2.2.2.2.2.2.2.2.2.2.2.2.1, st.2.2.2.2.2.2.2.2.2.2.2.2.2.2.2.2.1, st.2.2.2.2.2.2.2.2.2.2.2.2.2.2.2.2.2.1, st.2.2.2.2.2.2.2.2.2.2.2.2.2.2.2.2.2.2.1, st.2.2.2.2.2.2.2.2.2.2.2.2.2.2.2.2.2.2.2) tv (q2.2) hJ
set_option maxHeartbeats 4000000 in
set_option maxRecDepth 100000 in
theorem lwc_struck {p : Program} {l : Launch} {e : Env} {s : State} {m : MethodId} {below : List Frame} {meth : Method} {c : Code} {D : gG} {cB cI cJ cZ : ClassId} {b L : Nat} {xs : Nat → Int32} {J2 : SX → SM → Prop} (cx : gX p s m #[Value.ref b] meth c cL_law 4 RL D (tyL cB cI cJ cZ) (fun q => s.heap.size ≤ q)) (hX : va_X b L xs s s.heap) (hbl : b < s.heap.size) {j : Nat} (hj : j + 5 ≤ L) (hL : L ≤ 2560) {u : Nat → Nat → Nat} {st : SX} {tv : Value} {mo : Nat → Nat} {ms : SM} (hs : StepOK J2 st ms) (kk : ∀ (u : Nat → Nat → Nat) (mo : Nat → Nat) (st : SX) (tv : Value) (ms : SM), J2 st ms → gW p l e room_1 s m #[Value.ref b] below meth c D (fun q => s.heap.size ≤ q) 4 (lw_Z below #[Value.ref b] s) 88 2324 (wL cB cI cJ cZ u st tv mo ms).flatten [(0, .ref b), (1, .ref (u 0 0)), (2, .ref (mo 0)), (3, .int (nI j))] 1104 []) : gW p l e room_1 s m #[Value.ref b] below meth c D (fun q => s.heap.size ≤ q) 4 (lw_Z below #[Value.ref b] s) 88 2324 (wL cB cI cJ cZ u st tv mo ms).flatten [(0, .ref b), (1, .ref (u 0 0)), (2, .ref (mo 0)), (3, .int (nI j))] 675 [] := by
  obtain ⟨r, r2, st2, ms2, h1, h2, hJ⟩ := hs.2.2.2.2.2.2.2.2.2.2.2.2.2.2.2.1 (xs ((nI j) + 1).toNatClampNeg) (xs ((nI j) + 2).toNatClampNeg) (xs ((nI j) + 3).toNatClampNeg)
  refine omap h2 (fun q2 hq2 he2 => ?_)
  obtain ⟨rfl, rfl⟩ := Prod.mk.inj he2
  clear h2 he2
  refine omap h1 (fun q hq he => ?_)
  obtain ⟨rfl, rfl⟩ := Prod.mk.inj he
  clear h1 he
  refine g_aln cx 1 dL_law_675 rfl ?_
  refine g_aln cx 0 dL_law_676 rfl ?_
  refine g_iln cx 3 dL_law_677 rfl ?_
  refine g_ic cx dL_law_678 k_ic1 ?_
  refine g_iadd cx dL_law_679 ?_
  refine g_sld cx hX hbl (Nat.not_le.mpr hbl) (sc_in (c := 1) hj hL (by decide)) dL_law_680 ?_
  refine g_aln cx 0 dL_law_681 rfl ?_
  refine g_iln cx 3 dL_law_682 rfl ?_
  refine g_ic cx dL_law_683 k_ic2 ?_
  refine g_iadd cx dL_law_684 ?_
  refine g_sld cx hX hbl (Nat.not_le.mpr hbl) (sc_in (c := 2) hj hL (by decide)) dL_law_685 ?_
  refine g_aln cx 0 dL_law_686 rfl ?_
  refine g_iln cx 3 dL_law_687 rfl ?_
  refine g_ic cx dL_law_688 k_ic3 ?_
  refine g_iadd cx dL_law_689 ?_
  refine g_sld cx hX hbl (Nat.not_le.mpr hbl) (sc_in (c := 3) hj hL (by decide)) dL_law_690 ?_
  refine g_callVGi (gs' := [gX11 (u 0) cB cI cJ cZ (u 1 0) (u 2 0) (u 3 0) (u 4 0) (u 5 0) (u 6 0) (u 8 0) (u 9 0) (.ref (u 10 0)) (.ref (u 15 0)) st.1, gX8 (u 1) cB cI cJ cZ st.2.1, gX9 (u 2) cB cI cJ cZ q.2, gX4 (u 3) cB cI cJ cZ st.2.2.2.1, gX3 (u 4) cB cI cJ cZ st.2.2.2.2.1, gX2 (u 5) cB cI cJ cZ st.2.2.2.2.2.1, gX0 (u 6) cB cI cJ cZ (u 7 0) tv st.2.2.2.2.2.2.1, gX4 (u 7) cB cI cJ cZ st.2.2.2.2.2.2.2.1, gX4 (u 8) cB cI cJ cZ st.2.2.2.2.2.2.2.2.1, gX4 (u 9) cB cI cJ cZ st.2.2.2.2.2.2.2.2.2.1, gX7 (u 10) cB cI cJ cZ (u 11 0) (u 12 0) (u 13 0) (u 14 0) st.2.2.2.2.2.2.2.2.2.2.1, gX10 (u 11) cB cI cJ cZ st.2.2.2.2.2.2.2.2.2.2.2.1, gX1 (u 12) cB cI cJ cZ st.2.2.2.2.2.2.2.2.2.2.2.2.1, gX4 (u 13) cB cI cJ cZ st.2.2.2.2.2.2.2.2.2.2.2.2.2.1, gX4 (u 14) cB cI cJ cZ st.2.2.2.2.2.2.2.2.2.2.2.2.2.2.1, gX7 (u 15) cB cI cJ cZ (u 16 0) (u 17 0) (u 18 0) (u 19 0) st.2.2.2.2.2.2.2.2.2.2.2.2.2.2.2.1, gX10 (u 16) cB cI cJ cZ st.2.2.2.2.2.2.2.2.2.2.2.2.2.2.2.2.1, gX1 (u 17) cB cI cJ cZ st.2.2.2.2.2.2.2.2.2.2.2.2.2.2.2.2.2.1, gX4 (u 18) cB cI cJ cZ st.2.2.2.2.2.2.2.2.2.2.2.2.2.2.2.2.2.2.1, gX4 (u 19) cB cI cJ cZ st.2.2.2.2.2.2.2.2.2.2.2.2.2.2.2.2.2.2.2, wX12 mo cB cI cJ cZ ms]) cx lk_RL_80 (c_X11_struck l D cB cI cJ cZ (u 0) (u 10) (u 2) (u 12) (u 13) (u 11) (u 1) (u 3) (u 4) (u 5) (u 6) (u 8) (u 9) (u 15) (u 14) (st.1) (st.2.2.2.2.2.2.2.2.2.2.1) (st.2.2.1) (st.2.2.2.2.2.2.2.2.2.2.2.2.1) (st.2.2.2.2.2.2.2.2.2.2.2.2.2.1) (st.2.2.2.2.2.2.2.2.2.2.2.1) (xs ((nI j) + 1).toNatClampNeg) (xs ((nI j) + 2).toNatClampNeg) (xs ((nI j) + 3).toNatClampNeg) q hq) rfl [0, 10, 2, 12, 13, 11] rfl rfl rfl rfl (ci := 9) (q1 := 0) rfl rfl rfl (Nat.le_of_ble_eq_true rfl) ⟨rfl, rfl, Nat.le_of_ble_eq_true rfl, Nat.le_of_ble_eq_true rfl⟩ dL_law_691 ?_
  refine g_pop cx dL_law_694 rfl ?_
  refine g_aln cx 2 dL_law_695 rfl ?_
  refine g_aln cx 0 dL_law_696 rfl ?_
  refine g_iln cx 3 dL_law_697 rfl ?_
  refine g_ic cx dL_law_698 k_ic1 ?_
  refine g_iadd cx dL_law_699 ?_
  refine g_sld cx hX hbl (Nat.not_le.mpr hbl) (sc_in (c := 1) hj hL (by decide)) dL_law_700 ?_
  refine g_aln cx 0 dL_law_701 rfl ?_
  refine g_iln cx 3 dL_law_702 rfl ?_
  refine g_ic cx dL_law_703 k_ic2 ?_
  refine g_iadd cx dL_law_704 ?_
  refine g_sld cx hX hbl (Nat.not_le.mpr hbl) (sc_in (c := 2) hj hL (by decide)) dL_law_705 ?_
  refine g_aln cx 0 dL_law_706 rfl ?_
  refine g_iln cx 3 dL_law_707 rfl ?_
  refine g_ic cx dL_law_708 k_ic3 ?_
  refine g_iadd cx dL_law_709 ?_
  refine g_sld cx hX hbl (Nat.not_le.mpr hbl) (sc_in (c := 3) hj hL (by decide)) dL_law_710 ?_
  refine g_callVGi (gc := [wX12 mo cB cI cJ cZ ms]) (g1 := [wX12 mo cB cI cJ cZ q2.2]) (gs' := [gX11 (u 0) cB cI cJ cZ (u 1 0) (u 2 0) (u 3 0) (u 4 0) (u 5 0) (u 6 0) (u 8 0) (u 9 0) (.ref (u 10 0)) (.ref (u 15 0)) st.1, gX8 (u 1) cB cI cJ cZ st.2.1, gX9 (u 2) cB cI cJ cZ q.2, gX4 (u 3) cB cI cJ cZ st.2.2.2.1, gX3 (u 4) cB cI cJ cZ st.2.2.2.2.1, gX2 (u 5) cB cI cJ cZ st.2.2.2.2.2.1, gX0 (u 6) cB cI cJ cZ (u 7 0) tv st.2.2.2.2.2.2.1, gX4 (u 7) cB cI cJ cZ st.2.2.2.2.2.2.2.1, gX4 (u 8) cB cI cJ cZ st.2.2.2.2.2.2.2.2.1, gX4 (u 9) cB cI cJ cZ st.2.2.2.2.2.2.2.2.2.1, gX7 (u 10) cB cI cJ cZ (u 11 0) (u 12 0) (u 13 0) (u 14 0) st.2.2.2.2.2.2.2.2.2.2.1, gX10 (u 11) cB cI cJ cZ st.2.2.2.2.2.2.2.2.2.2.2.1, gX1 (u 12) cB cI cJ cZ st.2.2.2.2.2.2.2.2.2.2.2.2.1, gX4 (u 13) cB cI cJ cZ st.2.2.2.2.2.2.2.2.2.2.2.2.2.1, gX4 (u 14) cB cI cJ cZ st.2.2.2.2.2.2.2.2.2.2.2.2.2.2.1, gX7 (u 15) cB cI cJ cZ (u 16 0) (u 17 0) (u 18 0) (u 19 0) st.2.2.2.2.2.2.2.2.2.2.2.2.2.2.2.1, gX10 (u 16) cB cI cJ cZ st.2.2.2.2.2.2.2.2.2.2.2.2.2.2.2.2.1, gX1 (u 17) cB cI cJ cZ st.2.2.2.2.2.2.2.2.2.2.2.2.2.2.2.2.2.1, gX4 (u 18) cB cI cJ cZ st.2.2.2.2.2.2.2.2.2.2.2.2.2.2.2.2.2.2.1, gX4 (u 19) cB cI cJ cZ st.2.2.2.2.2.2.2.2.2.2.2.2.2.2.2.2.2.2.2, wX12 mo cB cI cJ cZ q2.2]) cx lk_RL_84 (gm_one (c_X12_struck l D cB cI cJ cZ mo ms (xs ((nI j) + 1).toNatClampNeg) (xs ((nI j) + 2).toNatClampNeg) (xs ((nI j) + 3).toNatClampNeg) q2 hq2)) rfl [20] rfl rfl rfl rfl (ci := 10) (q1 := 0) rfl rfl rfl (Nat.le_of_ble_eq_true rfl) ⟨rfl, rfl, Nat.le_of_ble_eq_true rfl, Nat.le_of_ble_eq_true rfl⟩ dL_law_711 ?_
  refine g_pop cx dL_law_714 rfl ?_
  refine g_goto (tgt := 1104) cx dL_law_715 rfl ?_
  exact kk u mo (st.1, st.2.1, q.2, st.2.2.2.1, st.2.2.2.2.1, st.2.2.2.2.2.1, st.2.2.2.2.2.2.1, st.2.2.2.2.2.2.2.1, st.2.2.2.2.2.2.2.2.1, st.2.2.2.2.2.2.2.2.2.1, st.2.2.2.2.2.2.2.2.2.2.1, st.2.2.2.2.2.2.2.2.2.2.2.1, st.2.2.2.2.2.2.2.2.2.2.2.2.1, st.2.2.2.2.2.2.2.2.2.2.2.2.2.1, st.2.2.2.2.2.2.2.2.2.2.2.2.2.2.1, st.2.2.2.2.2.2.2.2.2.2.2.2.2.2.2.1, st.2.2.2.2.2.2.2.2.2.2.2.2.2.2.2.2.1, st.2.2.2.2.2.2.2.2.2.2.2.2.2.2.2.2.2.1, st.2.2.2.2.2.2.2.2.2.2.2.2.2.2.2.2.2.2.1, st.2.2.2.2.2.2.2.2.2.2.2.2.2.2.2.2.2.2.2) tv (q2.2) hJ
set_option maxHeartbeats 4000000 in
set_option maxRecDepth 100000 in
theorem lwc_key {p : Program} {l : Launch} {e : Env} {s : State} {m : MethodId} {below : List Frame} {meth : Method} {c : Code} {D : gG} {cB cI cJ cZ : ClassId} {b L : Nat} {xs : Nat → Int32} {J2 : SX → SM → Prop} (cx : gX p s m #[Value.ref b] meth c cL_law 4 RL D (tyL cB cI cJ cZ) (fun q => s.heap.size ≤ q)) (hX : va_X b L xs s s.heap) (hbl : b < s.heap.size) {j : Nat} (hj : j + 5 ≤ L) (hL : L ≤ 2560) {u : Nat → Nat → Nat} {st : SX} {tv : Value} {mo : Nat → Nat} {ms : SM} (hs : StepOK J2 st ms) (kk : ∀ (u : Nat → Nat → Nat) (mo : Nat → Nat) (st : SX) (tv : Value) (ms : SM), J2 st ms → gW p l e room_1 s m #[Value.ref b] below meth c D (fun q => s.heap.size ≤ q) 4 (lw_Z below #[Value.ref b] s) 88 2324 (wL cB cI cJ cZ u st tv mo ms).flatten [(0, .ref b), (1, .ref (u 0 0)), (2, .ref (mo 0)), (3, .int (nI j))] 1104 []) : gW p l e room_1 s m #[Value.ref b] below meth c D (fun q => s.heap.size ≤ q) 4 (lw_Z below #[Value.ref b] s) 88 2324 (wL cB cI cJ cZ u st tv mo ms).flatten [(0, .ref b), (1, .ref (u 0 0)), (2, .ref (mo 0)), (3, .int (nI j))] 718 [] := by
  obtain ⟨r, r2, st2, ms2, h1, h2, hJ⟩ := hs.2.2.2.2.2.2.2.2.2.2.2.2.2.2.2.2.1 (xs ((nI j) + 1).toNatClampNeg) (xs ((nI j) + 2).toNatClampNeg)
  refine omap h2 (fun q2 hq2 he2 => ?_)
  obtain ⟨rfl, rfl⟩ := Prod.mk.inj he2
  clear h2 he2
  refine omap h1 (fun q hq he => ?_)
  obtain ⟨rfl, rfl⟩ := Prod.mk.inj he
  clear h1 he
  refine g_aln cx 1 dL_law_718 rfl ?_
  refine g_aln cx 0 dL_law_719 rfl ?_
  refine g_iln cx 3 dL_law_720 rfl ?_
  refine g_ic cx dL_law_721 k_ic1 ?_
  refine g_iadd cx dL_law_722 ?_
  refine g_sld cx hX hbl (Nat.not_le.mpr hbl) (sc_in (c := 1) hj hL (by decide)) dL_law_723 ?_
  refine g_aln cx 0 dL_law_724 rfl ?_
  refine g_iln cx 3 dL_law_725 rfl ?_
  refine g_ic cx dL_law_726 k_ic2 ?_
  refine g_iadd cx dL_law_727 ?_
  refine g_sld cx hX hbl (Nat.not_le.mpr hbl) (sc_in (c := 2) hj hL (by decide)) dL_law_728 ?_
  refine g_callVGi (gs' := [gX11 (u 0) cB cI cJ cZ (u 1 0) (u 2 0) (u 3 0) (u 4 0) (u 5 0) (u 6 0) (u 8 0) (u 9 0) (.ref (u 10 0)) (.ref (u 15 0)) st.1, gX8 (u 1) cB cI cJ cZ st.2.1, gX9 (u 2) cB cI cJ cZ q.2, gX4 (u 3) cB cI cJ cZ st.2.2.2.1, gX3 (u 4) cB cI cJ cZ st.2.2.2.2.1, gX2 (u 5) cB cI cJ cZ st.2.2.2.2.2.1, gX0 (u 6) cB cI cJ cZ (u 7 0) tv st.2.2.2.2.2.2.1, gX4 (u 7) cB cI cJ cZ st.2.2.2.2.2.2.2.1, gX4 (u 8) cB cI cJ cZ st.2.2.2.2.2.2.2.2.1, gX4 (u 9) cB cI cJ cZ st.2.2.2.2.2.2.2.2.2.1, gX7 (u 10) cB cI cJ cZ (u 11 0) (u 12 0) (u 13 0) (u 14 0) st.2.2.2.2.2.2.2.2.2.2.1, gX10 (u 11) cB cI cJ cZ st.2.2.2.2.2.2.2.2.2.2.2.1, gX1 (u 12) cB cI cJ cZ st.2.2.2.2.2.2.2.2.2.2.2.2.1, gX4 (u 13) cB cI cJ cZ st.2.2.2.2.2.2.2.2.2.2.2.2.2.1, gX4 (u 14) cB cI cJ cZ st.2.2.2.2.2.2.2.2.2.2.2.2.2.2.1, gX7 (u 15) cB cI cJ cZ (u 16 0) (u 17 0) (u 18 0) (u 19 0) st.2.2.2.2.2.2.2.2.2.2.2.2.2.2.2.1, gX10 (u 16) cB cI cJ cZ st.2.2.2.2.2.2.2.2.2.2.2.2.2.2.2.2.1, gX1 (u 17) cB cI cJ cZ st.2.2.2.2.2.2.2.2.2.2.2.2.2.2.2.2.2.1, gX4 (u 18) cB cI cJ cZ st.2.2.2.2.2.2.2.2.2.2.2.2.2.2.2.2.2.2.1, gX4 (u 19) cB cI cJ cZ st.2.2.2.2.2.2.2.2.2.2.2.2.2.2.2.2.2.2.2, wX12 mo cB cI cJ cZ ms]) cx lk_RL_85 (c_X11_key l D cB cI cJ cZ (u 0) (u 10) (u 2) (u 12) (u 13) (u 11) (u 1) (u 3) (u 4) (u 5) (u 6) (u 8) (u 9) (u 15) (u 14) (st.1) (st.2.2.2.2.2.2.2.2.2.2.1) (st.2.2.1) (st.2.2.2.2.2.2.2.2.2.2.2.2.1) (st.2.2.2.2.2.2.2.2.2.2.2.2.2.1) (st.2.2.2.2.2.2.2.2.2.2.2.1) (xs ((nI j) + 1).toNatClampNeg) (xs ((nI j) + 2).toNatClampNeg) q hq) rfl [0, 10, 2, 12, 13, 11] rfl rfl rfl rfl (ci := 9) (q1 := 0) rfl rfl rfl (Nat.le_of_ble_eq_true rfl) ⟨rfl, rfl, Nat.le_of_ble_eq_true rfl, Nat.le_of_ble_eq_true rfl⟩ dL_law_729 ?_
  refine g_pop cx dL_law_732 rfl ?_
  refine g_aln cx 2 dL_law_733 rfl ?_
  refine g_aln cx 0 dL_law_734 rfl ?_
  refine g_iln cx 3 dL_law_735 rfl ?_
  refine g_ic cx dL_law_736 k_ic1 ?_
  refine g_iadd cx dL_law_737 ?_
  refine g_sld cx hX hbl (Nat.not_le.mpr hbl) (sc_in (c := 1) hj hL (by decide)) dL_law_738 ?_
  refine g_aln cx 0 dL_law_739 rfl ?_
  refine g_iln cx 3 dL_law_740 rfl ?_
  refine g_ic cx dL_law_741 k_ic2 ?_
  refine g_iadd cx dL_law_742 ?_
  refine g_sld cx hX hbl (Nat.not_le.mpr hbl) (sc_in (c := 2) hj hL (by decide)) dL_law_743 ?_
  refine g_callVGi (gc := [wX12 mo cB cI cJ cZ ms]) (g1 := [wX12 mo cB cI cJ cZ q2.2]) (gs' := [gX11 (u 0) cB cI cJ cZ (u 1 0) (u 2 0) (u 3 0) (u 4 0) (u 5 0) (u 6 0) (u 8 0) (u 9 0) (.ref (u 10 0)) (.ref (u 15 0)) st.1, gX8 (u 1) cB cI cJ cZ st.2.1, gX9 (u 2) cB cI cJ cZ q.2, gX4 (u 3) cB cI cJ cZ st.2.2.2.1, gX3 (u 4) cB cI cJ cZ st.2.2.2.2.1, gX2 (u 5) cB cI cJ cZ st.2.2.2.2.2.1, gX0 (u 6) cB cI cJ cZ (u 7 0) tv st.2.2.2.2.2.2.1, gX4 (u 7) cB cI cJ cZ st.2.2.2.2.2.2.2.1, gX4 (u 8) cB cI cJ cZ st.2.2.2.2.2.2.2.2.1, gX4 (u 9) cB cI cJ cZ st.2.2.2.2.2.2.2.2.2.1, gX7 (u 10) cB cI cJ cZ (u 11 0) (u 12 0) (u 13 0) (u 14 0) st.2.2.2.2.2.2.2.2.2.2.1, gX10 (u 11) cB cI cJ cZ st.2.2.2.2.2.2.2.2.2.2.2.1, gX1 (u 12) cB cI cJ cZ st.2.2.2.2.2.2.2.2.2.2.2.2.1, gX4 (u 13) cB cI cJ cZ st.2.2.2.2.2.2.2.2.2.2.2.2.2.1, gX4 (u 14) cB cI cJ cZ st.2.2.2.2.2.2.2.2.2.2.2.2.2.2.1, gX7 (u 15) cB cI cJ cZ (u 16 0) (u 17 0) (u 18 0) (u 19 0) st.2.2.2.2.2.2.2.2.2.2.2.2.2.2.2.1, gX10 (u 16) cB cI cJ cZ st.2.2.2.2.2.2.2.2.2.2.2.2.2.2.2.2.1, gX1 (u 17) cB cI cJ cZ st.2.2.2.2.2.2.2.2.2.2.2.2.2.2.2.2.2.1, gX4 (u 18) cB cI cJ cZ st.2.2.2.2.2.2.2.2.2.2.2.2.2.2.2.2.2.2.1, gX4 (u 19) cB cI cJ cZ st.2.2.2.2.2.2.2.2.2.2.2.2.2.2.2.2.2.2.2, wX12 mo cB cI cJ cZ q2.2]) cx lk_RL_88 (gm_one (c_X12_key l D cB cI cJ cZ mo ms (xs ((nI j) + 1).toNatClampNeg) (xs ((nI j) + 2).toNatClampNeg) q2 hq2)) rfl [20] rfl rfl rfl rfl (ci := 10) (q1 := 0) rfl rfl rfl (Nat.le_of_ble_eq_true rfl) ⟨rfl, rfl, Nat.le_of_ble_eq_true rfl, Nat.le_of_ble_eq_true rfl⟩ dL_law_744 ?_
  refine g_pop cx dL_law_747 rfl ?_
  refine g_goto (tgt := 1104) cx dL_law_748 rfl ?_
  exact kk u mo (st.1, st.2.1, q.2, st.2.2.2.1, st.2.2.2.2.1, st.2.2.2.2.2.1, st.2.2.2.2.2.2.1, st.2.2.2.2.2.2.2.1, st.2.2.2.2.2.2.2.2.1, st.2.2.2.2.2.2.2.2.2.1, st.2.2.2.2.2.2.2.2.2.2.1, st.2.2.2.2.2.2.2.2.2.2.2.1, st.2.2.2.2.2.2.2.2.2.2.2.2.1, st.2.2.2.2.2.2.2.2.2.2.2.2.2.1, st.2.2.2.2.2.2.2.2.2.2.2.2.2.2.1, st.2.2.2.2.2.2.2.2.2.2.2.2.2.2.2.1, st.2.2.2.2.2.2.2.2.2.2.2.2.2.2.2.2.1, st.2.2.2.2.2.2.2.2.2.2.2.2.2.2.2.2.2.1, st.2.2.2.2.2.2.2.2.2.2.2.2.2.2.2.2.2.2.1, st.2.2.2.2.2.2.2.2.2.2.2.2.2.2.2.2.2.2.2) tv (q2.2) hJ
set_option maxHeartbeats 4000000 in
set_option maxRecDepth 100000 in
theorem lwc_mended {p : Program} {l : Launch} {e : Env} {s : State} {m : MethodId} {below : List Frame} {meth : Method} {c : Code} {D : gG} {cB cI cJ cZ : ClassId} {b L : Nat} {xs : Nat → Int32} {J2 : SX → SM → Prop} (cx : gX p s m #[Value.ref b] meth c cL_law 4 RL D (tyL cB cI cJ cZ) (fun q => s.heap.size ≤ q)) (hX : va_X b L xs s s.heap) (hbl : b < s.heap.size) {j : Nat} (hj : j + 5 ≤ L) (hL : L ≤ 2560) {u : Nat → Nat → Nat} {st : SX} {tv : Value} {mo : Nat → Nat} {ms : SM} (hs : StepOK J2 st ms) (kk : ∀ (u : Nat → Nat → Nat) (mo : Nat → Nat) (st : SX) (tv : Value) (ms : SM), J2 st ms → gW p l e room_1 s m #[Value.ref b] below meth c D (fun q => s.heap.size ≤ q) 4 (lw_Z below #[Value.ref b] s) 88 2324 (wL cB cI cJ cZ u st tv mo ms).flatten [(0, .ref b), (1, .ref (u 0 0)), (2, .ref (mo 0)), (3, .int (nI j))] 1104 []) : gW p l e room_1 s m #[Value.ref b] below meth c D (fun q => s.heap.size ≤ q) 4 (lw_Z below #[Value.ref b] s) 88 2324 (wL cB cI cJ cZ u st tv mo ms).flatten [(0, .ref b), (1, .ref (u 0 0)), (2, .ref (mo 0)), (3, .int (nI j))] 751 [] := by
  obtain ⟨r, r2, st2, ms2, h1, h2, hJ⟩ := hs.2.2.2.2.2.2.2.2.2.2.2.2.2.2.2.2.2.1 (xs ((nI j) + 1).toNatClampNeg) (xs ((nI j) + 2).toNatClampNeg) (xs ((nI j) + 3).toNatClampNeg)
  refine omap h2 (fun q2 hq2 he2 => ?_)
  obtain ⟨rfl, rfl⟩ := Prod.mk.inj he2
  clear h2 he2
  refine omap h1 (fun q hq he => ?_)
  obtain ⟨rfl, rfl⟩ := Prod.mk.inj he
  clear h1 he
  refine g_aln cx 1 dL_law_751 rfl ?_
  refine g_aln cx 0 dL_law_752 rfl ?_
  refine g_iln cx 3 dL_law_753 rfl ?_
  refine g_ic cx dL_law_754 k_ic1 ?_
  refine g_iadd cx dL_law_755 ?_
  refine g_sld cx hX hbl (Nat.not_le.mpr hbl) (sc_in (c := 1) hj hL (by decide)) dL_law_756 ?_
  refine g_aln cx 0 dL_law_757 rfl ?_
  refine g_iln cx 3 dL_law_758 rfl ?_
  refine g_ic cx dL_law_759 k_ic2 ?_
  refine g_iadd cx dL_law_760 ?_
  refine g_sld cx hX hbl (Nat.not_le.mpr hbl) (sc_in (c := 2) hj hL (by decide)) dL_law_761 ?_
  refine g_aln cx 0 dL_law_762 rfl ?_
  refine g_iln cx 3 dL_law_763 rfl ?_
  refine g_ic cx dL_law_764 k_ic3 ?_
  refine g_iadd cx dL_law_765 ?_
  refine g_sld cx hX hbl (Nat.not_le.mpr hbl) (sc_in (c := 3) hj hL (by decide)) dL_law_766 ?_
  refine g_callVGi (gs' := [gX11 (u 0) cB cI cJ cZ (u 1 0) (u 2 0) (u 3 0) (u 4 0) (u 5 0) (u 6 0) (u 8 0) (u 9 0) (.ref (u 10 0)) (.ref (u 15 0)) st.1, gX8 (u 1) cB cI cJ cZ st.2.1, gX9 (u 2) cB cI cJ cZ st.2.2.1, gX4 (u 3) cB cI cJ cZ st.2.2.2.1, gX3 (u 4) cB cI cJ cZ q.2, gX2 (u 5) cB cI cJ cZ st.2.2.2.2.2.1, gX0 (u 6) cB cI cJ cZ (u 7 0) tv st.2.2.2.2.2.2.1, gX4 (u 7) cB cI cJ cZ st.2.2.2.2.2.2.2.1, gX4 (u 8) cB cI cJ cZ st.2.2.2.2.2.2.2.2.1, gX4 (u 9) cB cI cJ cZ st.2.2.2.2.2.2.2.2.2.1, gX7 (u 10) cB cI cJ cZ (u 11 0) (u 12 0) (u 13 0) (u 14 0) st.2.2.2.2.2.2.2.2.2.2.1, gX10 (u 11) cB cI cJ cZ st.2.2.2.2.2.2.2.2.2.2.2.1, gX1 (u 12) cB cI cJ cZ st.2.2.2.2.2.2.2.2.2.2.2.2.1, gX4 (u 13) cB cI cJ cZ st.2.2.2.2.2.2.2.2.2.2.2.2.2.1, gX4 (u 14) cB cI cJ cZ st.2.2.2.2.2.2.2.2.2.2.2.2.2.2.1, gX7 (u 15) cB cI cJ cZ (u 16 0) (u 17 0) (u 18 0) (u 19 0) st.2.2.2.2.2.2.2.2.2.2.2.2.2.2.2.1, gX10 (u 16) cB cI cJ cZ st.2.2.2.2.2.2.2.2.2.2.2.2.2.2.2.2.1, gX1 (u 17) cB cI cJ cZ st.2.2.2.2.2.2.2.2.2.2.2.2.2.2.2.2.2.1, gX4 (u 18) cB cI cJ cZ st.2.2.2.2.2.2.2.2.2.2.2.2.2.2.2.2.2.2.1, gX4 (u 19) cB cI cJ cZ st.2.2.2.2.2.2.2.2.2.2.2.2.2.2.2.2.2.2.2, wX12 mo cB cI cJ cZ ms]) cx lk_RL_89 (c_X11_mended l D cB cI cJ cZ (u 0) (u 4) (u 10) (u 12) (u 13) (u 11) (u 1) (u 2) (u 3) (u 5) (u 6) (u 8) (u 9) (u 15) (u 14) (st.1) (st.2.2.2.2.1) (st.2.2.2.2.2.2.2.2.2.2.1) (st.2.2.2.2.2.2.2.2.2.2.2.2.1) (st.2.2.2.2.2.2.2.2.2.2.2.2.2.1) (st.2.2.2.2.2.2.2.2.2.2.2.1) (xs ((nI j) + 1).toNatClampNeg) (xs ((nI j) + 2).toNatClampNeg) (xs ((nI j) + 3).toNatClampNeg) q hq) rfl [0, 4, 10, 12, 13, 11] rfl rfl rfl rfl (ci := 9) (q1 := 0) rfl rfl rfl (Nat.le_of_ble_eq_true rfl) ⟨rfl, rfl, Nat.le_of_ble_eq_true rfl, Nat.le_of_ble_eq_true rfl⟩ dL_law_767 ?_
  refine g_pop cx dL_law_770 rfl ?_
  refine g_aln cx 2 dL_law_771 rfl ?_
  refine g_aln cx 0 dL_law_772 rfl ?_
  refine g_iln cx 3 dL_law_773 rfl ?_
  refine g_ic cx dL_law_774 k_ic1 ?_
  refine g_iadd cx dL_law_775 ?_
  refine g_sld cx hX hbl (Nat.not_le.mpr hbl) (sc_in (c := 1) hj hL (by decide)) dL_law_776 ?_
  refine g_aln cx 0 dL_law_777 rfl ?_
  refine g_iln cx 3 dL_law_778 rfl ?_
  refine g_ic cx dL_law_779 k_ic2 ?_
  refine g_iadd cx dL_law_780 ?_
  refine g_sld cx hX hbl (Nat.not_le.mpr hbl) (sc_in (c := 2) hj hL (by decide)) dL_law_781 ?_
  refine g_aln cx 0 dL_law_782 rfl ?_
  refine g_iln cx 3 dL_law_783 rfl ?_
  refine g_ic cx dL_law_784 k_ic3 ?_
  refine g_iadd cx dL_law_785 ?_
  refine g_sld cx hX hbl (Nat.not_le.mpr hbl) (sc_in (c := 3) hj hL (by decide)) dL_law_786 ?_
  refine g_callVGi (gc := [wX12 mo cB cI cJ cZ ms]) (g1 := [wX12 mo cB cI cJ cZ q2.2]) (gs' := [gX11 (u 0) cB cI cJ cZ (u 1 0) (u 2 0) (u 3 0) (u 4 0) (u 5 0) (u 6 0) (u 8 0) (u 9 0) (.ref (u 10 0)) (.ref (u 15 0)) st.1, gX8 (u 1) cB cI cJ cZ st.2.1, gX9 (u 2) cB cI cJ cZ st.2.2.1, gX4 (u 3) cB cI cJ cZ st.2.2.2.1, gX3 (u 4) cB cI cJ cZ q.2, gX2 (u 5) cB cI cJ cZ st.2.2.2.2.2.1, gX0 (u 6) cB cI cJ cZ (u 7 0) tv st.2.2.2.2.2.2.1, gX4 (u 7) cB cI cJ cZ st.2.2.2.2.2.2.2.1, gX4 (u 8) cB cI cJ cZ st.2.2.2.2.2.2.2.2.1, gX4 (u 9) cB cI cJ cZ st.2.2.2.2.2.2.2.2.2.1, gX7 (u 10) cB cI cJ cZ (u 11 0) (u 12 0) (u 13 0) (u 14 0) st.2.2.2.2.2.2.2.2.2.2.1, gX10 (u 11) cB cI cJ cZ st.2.2.2.2.2.2.2.2.2.2.2.1, gX1 (u 12) cB cI cJ cZ st.2.2.2.2.2.2.2.2.2.2.2.2.1, gX4 (u 13) cB cI cJ cZ st.2.2.2.2.2.2.2.2.2.2.2.2.2.1, gX4 (u 14) cB cI cJ cZ st.2.2.2.2.2.2.2.2.2.2.2.2.2.2.1, gX7 (u 15) cB cI cJ cZ (u 16 0) (u 17 0) (u 18 0) (u 19 0) st.2.2.2.2.2.2.2.2.2.2.2.2.2.2.2.1, gX10 (u 16) cB cI cJ cZ st.2.2.2.2.2.2.2.2.2.2.2.2.2.2.2.2.1, gX1 (u 17) cB cI cJ cZ st.2.2.2.2.2.2.2.2.2.2.2.2.2.2.2.2.2.1, gX4 (u 18) cB cI cJ cZ st.2.2.2.2.2.2.2.2.2.2.2.2.2.2.2.2.2.2.1, gX4 (u 19) cB cI cJ cZ st.2.2.2.2.2.2.2.2.2.2.2.2.2.2.2.2.2.2.2, wX12 mo cB cI cJ cZ q2.2]) cx lk_RL_92 (gm_one (c_X12_mended l D cB cI cJ cZ mo ms (xs ((nI j) + 1).toNatClampNeg) (xs ((nI j) + 2).toNatClampNeg) (xs ((nI j) + 3).toNatClampNeg) q2 hq2)) rfl [20] rfl rfl rfl rfl (ci := 10) (q1 := 0) rfl rfl rfl (Nat.le_of_ble_eq_true rfl) ⟨rfl, rfl, Nat.le_of_ble_eq_true rfl, Nat.le_of_ble_eq_true rfl⟩ dL_law_787 ?_
  refine g_pop cx dL_law_790 rfl ?_
  refine g_goto (tgt := 1104) cx dL_law_791 rfl ?_
  exact kk u mo (st.1, st.2.1, st.2.2.1, st.2.2.2.1, q.2, st.2.2.2.2.2.1, st.2.2.2.2.2.2.1, st.2.2.2.2.2.2.2.1, st.2.2.2.2.2.2.2.2.1, st.2.2.2.2.2.2.2.2.2.1, st.2.2.2.2.2.2.2.2.2.2.1, st.2.2.2.2.2.2.2.2.2.2.2.1, st.2.2.2.2.2.2.2.2.2.2.2.2.1, st.2.2.2.2.2.2.2.2.2.2.2.2.2.1, st.2.2.2.2.2.2.2.2.2.2.2.2.2.2.1, st.2.2.2.2.2.2.2.2.2.2.2.2.2.2.2.1, st.2.2.2.2.2.2.2.2.2.2.2.2.2.2.2.2.1, st.2.2.2.2.2.2.2.2.2.2.2.2.2.2.2.2.2.1, st.2.2.2.2.2.2.2.2.2.2.2.2.2.2.2.2.2.2.1, st.2.2.2.2.2.2.2.2.2.2.2.2.2.2.2.2.2.2.2) tv (q2.2) hJ
set_option maxHeartbeats 4000000 in
set_option maxRecDepth 100000 in
theorem lwc_shortest {p : Program} {l : Launch} {e : Env} {s : State} {m : MethodId} {below : List Frame} {meth : Method} {c : Code} {D : gG} {cB cI cJ cZ : ClassId} {b L : Nat} {xs : Nat → Int32} {J2 : SX → SM → Prop} (cx : gX p s m #[Value.ref b] meth c cL_law 4 RL D (tyL cB cI cJ cZ) (fun q => s.heap.size ≤ q)) (hX : va_X b L xs s s.heap) (hbl : b < s.heap.size) {j : Nat} (hj : j + 5 ≤ L) (hL : L ≤ 2560) {u : Nat → Nat → Nat} {st : SX} {tv : Value} {mo : Nat → Nat} {ms : SM} (hs : StepOK J2 st ms) (kk : ∀ (u : Nat → Nat → Nat) (mo : Nat → Nat) (st : SX) (tv : Value) (ms : SM), J2 st ms → gW p l e room_1 s m #[Value.ref b] below meth c D (fun q => s.heap.size ≤ q) 4 (lw_Z below #[Value.ref b] s) 88 2324 (wL cB cI cJ cZ u st tv mo ms).flatten [(0, .ref b), (1, .ref (u 0 0)), (2, .ref (mo 0)), (3, .int (nI j))] 1104 []) : gW p l e room_1 s m #[Value.ref b] below meth c D (fun q => s.heap.size ≤ q) 4 (lw_Z below #[Value.ref b] s) 88 2324 (wL cB cI cJ cZ u st tv mo ms).flatten [(0, .ref b), (1, .ref (u 0 0)), (2, .ref (mo 0)), (3, .int (nI j))] 794 [] := by
  obtain ⟨r, r2, st2, ms2, h1, h2, hJ⟩ := hs.2.2.2.2.2.2.2.2.2.2.2.2.2.2.2.2.2.2.1 (xs ((nI j) + 1).toNatClampNeg) (xs ((nI j) + 2).toNatClampNeg) (xs ((nI j) + 3).toNatClampNeg) (xs ((nI j) + 4).toNatClampNeg)
  refine omap h2 (fun q2 hq2 he2 => ?_)
  obtain ⟨rfl, rfl⟩ := Prod.mk.inj he2
  clear h2 he2
  unfold X_shortest at h1
  split at h1
  · rename_i q hq
    obtain ⟨rfl, rfl⟩ := Prod.mk.inj (Option.some.inj h1)
    clear h1
    refine g_aln cx 1 dL_law_794 rfl ?_
    refine g_aln cx 0 dL_law_795 rfl ?_
    refine g_iln cx 3 dL_law_796 rfl ?_
    refine g_ic cx dL_law_797 k_ic1 ?_
    refine g_iadd cx dL_law_798 ?_
    refine g_sld cx hX hbl (Nat.not_le.mpr hbl) (sc_in (c := 1) hj hL (by decide)) dL_law_799 ?_
    refine g_aln cx 0 dL_law_800 rfl ?_
    refine g_iln cx 3 dL_law_801 rfl ?_
    refine g_ic cx dL_law_802 k_ic2 ?_
    refine g_iadd cx dL_law_803 ?_
    refine g_sld cx hX hbl (Nat.not_le.mpr hbl) (sc_in (c := 2) hj hL (by decide)) dL_law_804 ?_
    refine g_aln cx 0 dL_law_805 rfl ?_
    refine g_iln cx 3 dL_law_806 rfl ?_
    refine g_ic cx dL_law_807 k_ic3 ?_
    refine g_iadd cx dL_law_808 ?_
    refine g_sld cx hX hbl (Nat.not_le.mpr hbl) (sc_in (c := 3) hj hL (by decide)) dL_law_809 ?_
    refine g_aln cx 0 dL_law_810 rfl ?_
    refine g_iln cx 3 dL_law_811 rfl ?_
    refine g_ic cx dL_law_812 k_ic4 ?_
    refine g_iadd cx dL_law_813 ?_
    refine g_sld cx hX hbl (Nat.not_le.mpr hbl) (sc_in (c := 4) hj hL (by decide)) dL_law_814 ?_
    refine g_callVGi (gs' := [gX11 (u 0) cB cI cJ cZ (u 1 0) (u 2 0) (u 3 0) (u 4 0) (u 5 0) (u 6 0) (u 8 0) (u 9 0) (.ref (u 10 0)) (.ref (u 15 0)) st.1, gX8 (u 1) cB cI cJ cZ st.2.1, gX9 (u 2) cB cI cJ cZ st.2.2.1, gX4 (u 3) cB cI cJ cZ st.2.2.2.1, gX3 (u 4) cB cI cJ cZ st.2.2.2.2.1, gX2 (u 5) cB cI cJ cZ st.2.2.2.2.2.1, gX0 (u 6) cB cI cJ cZ (u 7 0) tv q.2.1, gX4 (u 7) cB cI cJ cZ q.2.2, gX4 (u 8) cB cI cJ cZ st.2.2.2.2.2.2.2.2.1, gX4 (u 9) cB cI cJ cZ st.2.2.2.2.2.2.2.2.2.1, gX7 (u 10) cB cI cJ cZ (u 11 0) (u 12 0) (u 13 0) (u 14 0) st.2.2.2.2.2.2.2.2.2.2.1, gX10 (u 11) cB cI cJ cZ st.2.2.2.2.2.2.2.2.2.2.2.1, gX1 (u 12) cB cI cJ cZ st.2.2.2.2.2.2.2.2.2.2.2.2.1, gX4 (u 13) cB cI cJ cZ st.2.2.2.2.2.2.2.2.2.2.2.2.2.1, gX4 (u 14) cB cI cJ cZ st.2.2.2.2.2.2.2.2.2.2.2.2.2.2.1, gX7 (u 15) cB cI cJ cZ (u 16 0) (u 17 0) (u 18 0) (u 19 0) st.2.2.2.2.2.2.2.2.2.2.2.2.2.2.2.1, gX10 (u 16) cB cI cJ cZ st.2.2.2.2.2.2.2.2.2.2.2.2.2.2.2.2.1, gX1 (u 17) cB cI cJ cZ st.2.2.2.2.2.2.2.2.2.2.2.2.2.2.2.2.2.1, gX4 (u 18) cB cI cJ cZ st.2.2.2.2.2.2.2.2.2.2.2.2.2.2.2.2.2.2.1, gX4 (u 19) cB cI cJ cZ st.2.2.2.2.2.2.2.2.2.2.2.2.2.2.2.2.2.2.2, wX12 mo cB cI cJ cZ ms]) cx lk_RL_93 (c_X11_shortest_0 l D cB cI cJ cZ (u 0) (u 6) (u 10) (u 7) (u 12) (u 14) (u 11) (u 1) (u 2) (u 3) (u 4) (u 5) (u 8) (u 9) (u 15) (u 0) (u 13) (st.1) (st.2.2.2.2.2.2.1) (st.2.2.2.2.2.2.2.2.2.2.1) (st.2.2.2.2.2.2.2.1) (st.2.2.2.2.2.2.2.2.2.2.2.2.1) (st.2.2.2.2.2.2.2.2.2.2.2.2.2.2.1) (st.2.2.2.2.2.2.2.2.2.2.2.1) (xs ((nI j) + 1).toNatClampNeg) (xs ((nI j) + 2).toNatClampNeg) (xs ((nI j) + 3).toNatClampNeg) (xs ((nI j) + 4).toNatClampNeg) tv q hq) rfl [0, 6, 10, 7, 12, 14, 11] rfl rfl rfl rfl (ci := 9) (q1 := 0) rfl rfl rfl (Nat.le_of_ble_eq_true rfl) ⟨rfl, rfl, Nat.le_of_ble_eq_true rfl, Nat.le_of_ble_eq_true rfl⟩ dL_law_815 ?_
    refine g_pop cx dL_law_818 rfl ?_
    refine g_aln cx 2 dL_law_819 rfl ?_
    refine g_aln cx 0 dL_law_820 rfl ?_
    refine g_iln cx 3 dL_law_821 rfl ?_
    refine g_ic cx dL_law_822 k_ic1 ?_
    refine g_iadd cx dL_law_823 ?_
    refine g_sld cx hX hbl (Nat.not_le.mpr hbl) (sc_in (c := 1) hj hL (by decide)) dL_law_824 ?_
    refine g_aln cx 0 dL_law_825 rfl ?_
    refine g_iln cx 3 dL_law_826 rfl ?_
    refine g_ic cx dL_law_827 k_ic2 ?_
    refine g_iadd cx dL_law_828 ?_
    refine g_sld cx hX hbl (Nat.not_le.mpr hbl) (sc_in (c := 2) hj hL (by decide)) dL_law_829 ?_
    refine g_aln cx 0 dL_law_830 rfl ?_
    refine g_iln cx 3 dL_law_831 rfl ?_
    refine g_ic cx dL_law_832 k_ic3 ?_
    refine g_iadd cx dL_law_833 ?_
    refine g_sld cx hX hbl (Nat.not_le.mpr hbl) (sc_in (c := 3) hj hL (by decide)) dL_law_834 ?_
    refine g_aln cx 0 dL_law_835 rfl ?_
    refine g_iln cx 3 dL_law_836 rfl ?_
    refine g_ic cx dL_law_837 k_ic4 ?_
    refine g_iadd cx dL_law_838 ?_
    refine g_sld cx hX hbl (Nat.not_le.mpr hbl) (sc_in (c := 4) hj hL (by decide)) dL_law_839 ?_
    refine g_callVGi (gc := [wX12 mo cB cI cJ cZ ms]) (g1 := [wX12 mo cB cI cJ cZ q2.2]) (gs' := [gX11 (u 0) cB cI cJ cZ (u 1 0) (u 2 0) (u 3 0) (u 4 0) (u 5 0) (u 6 0) (u 8 0) (u 9 0) (.ref (u 10 0)) (.ref (u 15 0)) st.1, gX8 (u 1) cB cI cJ cZ st.2.1, gX9 (u 2) cB cI cJ cZ st.2.2.1, gX4 (u 3) cB cI cJ cZ st.2.2.2.1, gX3 (u 4) cB cI cJ cZ st.2.2.2.2.1, gX2 (u 5) cB cI cJ cZ st.2.2.2.2.2.1, gX0 (u 6) cB cI cJ cZ (u 7 0) tv q.2.1, gX4 (u 7) cB cI cJ cZ q.2.2, gX4 (u 8) cB cI cJ cZ st.2.2.2.2.2.2.2.2.1, gX4 (u 9) cB cI cJ cZ st.2.2.2.2.2.2.2.2.2.1, gX7 (u 10) cB cI cJ cZ (u 11 0) (u 12 0) (u 13 0) (u 14 0) st.2.2.2.2.2.2.2.2.2.2.1, gX10 (u 11) cB cI cJ cZ st.2.2.2.2.2.2.2.2.2.2.2.1, gX1 (u 12) cB cI cJ cZ st.2.2.2.2.2.2.2.2.2.2.2.2.1, gX4 (u 13) cB cI cJ cZ st.2.2.2.2.2.2.2.2.2.2.2.2.2.1, gX4 (u 14) cB cI cJ cZ st.2.2.2.2.2.2.2.2.2.2.2.2.2.2.1, gX7 (u 15) cB cI cJ cZ (u 16 0) (u 17 0) (u 18 0) (u 19 0) st.2.2.2.2.2.2.2.2.2.2.2.2.2.2.2.1, gX10 (u 16) cB cI cJ cZ st.2.2.2.2.2.2.2.2.2.2.2.2.2.2.2.2.1, gX1 (u 17) cB cI cJ cZ st.2.2.2.2.2.2.2.2.2.2.2.2.2.2.2.2.2.1, gX4 (u 18) cB cI cJ cZ st.2.2.2.2.2.2.2.2.2.2.2.2.2.2.2.2.2.2.1, gX4 (u 19) cB cI cJ cZ st.2.2.2.2.2.2.2.2.2.2.2.2.2.2.2.2.2.2.2, wX12 mo cB cI cJ cZ q2.2]) cx lk_RL_96 (gm_one (c_X12_shortest l D cB cI cJ cZ mo ms (xs ((nI j) + 1).toNatClampNeg) (xs ((nI j) + 2).toNatClampNeg) (xs ((nI j) + 3).toNatClampNeg) (xs ((nI j) + 4).toNatClampNeg) q2 hq2)) rfl [20] rfl rfl rfl rfl (ci := 10) (q1 := 0) rfl rfl rfl (Nat.le_of_ble_eq_true rfl) ⟨rfl, rfl, Nat.le_of_ble_eq_true rfl, Nat.le_of_ble_eq_true rfl⟩ dL_law_840 ?_
    refine g_pop cx dL_law_843 rfl ?_
    refine g_goto (tgt := 1104) cx dL_law_844 rfl ?_
    exact kk u mo (st.1, st.2.1, st.2.2.1, st.2.2.2.1, st.2.2.2.2.1, st.2.2.2.2.2.1, q.2.1, q.2.2, st.2.2.2.2.2.2.2.2.1, st.2.2.2.2.2.2.2.2.2.1, st.2.2.2.2.2.2.2.2.2.2.1, st.2.2.2.2.2.2.2.2.2.2.2.1, st.2.2.2.2.2.2.2.2.2.2.2.2.1, st.2.2.2.2.2.2.2.2.2.2.2.2.2.1, st.2.2.2.2.2.2.2.2.2.2.2.2.2.2.1, st.2.2.2.2.2.2.2.2.2.2.2.2.2.2.2.1, st.2.2.2.2.2.2.2.2.2.2.2.2.2.2.2.2.1, st.2.2.2.2.2.2.2.2.2.2.2.2.2.2.2.2.2.1, st.2.2.2.2.2.2.2.2.2.2.2.2.2.2.2.2.2.2.1, st.2.2.2.2.2.2.2.2.2.2.2.2.2.2.2.2.2.2.2) tv (q2.2) hJ
  · refine omap h1 (fun q hq he => ?_)
    obtain ⟨rfl, rfl⟩ := Prod.mk.inj he
    clear h1 he
    refine g_aln cx 1 dL_law_794 rfl ?_
    refine g_aln cx 0 dL_law_795 rfl ?_
    refine g_iln cx 3 dL_law_796 rfl ?_
    refine g_ic cx dL_law_797 k_ic1 ?_
    refine g_iadd cx dL_law_798 ?_
    refine g_sld cx hX hbl (Nat.not_le.mpr hbl) (sc_in (c := 1) hj hL (by decide)) dL_law_799 ?_
    refine g_aln cx 0 dL_law_800 rfl ?_
    refine g_iln cx 3 dL_law_801 rfl ?_
    refine g_ic cx dL_law_802 k_ic2 ?_
    refine g_iadd cx dL_law_803 ?_
    refine g_sld cx hX hbl (Nat.not_le.mpr hbl) (sc_in (c := 2) hj hL (by decide)) dL_law_804 ?_
    refine g_aln cx 0 dL_law_805 rfl ?_
    refine g_iln cx 3 dL_law_806 rfl ?_
    refine g_ic cx dL_law_807 k_ic3 ?_
    refine g_iadd cx dL_law_808 ?_
    refine g_sld cx hX hbl (Nat.not_le.mpr hbl) (sc_in (c := 3) hj hL (by decide)) dL_law_809 ?_
    refine g_aln cx 0 dL_law_810 rfl ?_
    refine g_iln cx 3 dL_law_811 rfl ?_
    refine g_ic cx dL_law_812 k_ic4 ?_
    refine g_iadd cx dL_law_813 ?_
    refine g_sld cx hX hbl (Nat.not_le.mpr hbl) (sc_in (c := 4) hj hL (by decide)) dL_law_814 ?_
    refine g_callVGi (gs' := [gX11 (u 0) cB cI cJ cZ (u 1 0) (u 2 0) (u 3 0) (u 4 0) (u 5 0) (u 6 0) (u 8 0) (u 9 0) (.ref (u 10 0)) (.ref (u 15 0)) st.1, gX8 (u 1) cB cI cJ cZ st.2.1, gX9 (u 2) cB cI cJ cZ st.2.2.1, gX4 (u 3) cB cI cJ cZ st.2.2.2.1, gX3 (u 4) cB cI cJ cZ st.2.2.2.2.1, gX2 (u 5) cB cI cJ cZ st.2.2.2.2.2.1, gX0 (u 6) cB cI cJ cZ (u 7 0) (.ref (u 10 0)) q.2.1, gX4 (u 7) cB cI cJ cZ q.2.2, gX4 (u 8) cB cI cJ cZ st.2.2.2.2.2.2.2.2.1, gX4 (u 9) cB cI cJ cZ st.2.2.2.2.2.2.2.2.2.1, gX7 (u 10) cB cI cJ cZ (u 11 0) (u 12 0) (u 13 0) (u 14 0) st.2.2.2.2.2.2.2.2.2.2.1, gX10 (u 11) cB cI cJ cZ st.2.2.2.2.2.2.2.2.2.2.2.1, gX1 (u 12) cB cI cJ cZ st.2.2.2.2.2.2.2.2.2.2.2.2.1, gX4 (u 13) cB cI cJ cZ st.2.2.2.2.2.2.2.2.2.2.2.2.2.1, gX4 (u 14) cB cI cJ cZ st.2.2.2.2.2.2.2.2.2.2.2.2.2.2.1, gX7 (u 15) cB cI cJ cZ (u 16 0) (u 17 0) (u 18 0) (u 19 0) st.2.2.2.2.2.2.2.2.2.2.2.2.2.2.2.1, gX10 (u 16) cB cI cJ cZ st.2.2.2.2.2.2.2.2.2.2.2.2.2.2.2.2.1, gX1 (u 17) cB cI cJ cZ st.2.2.2.2.2.2.2.2.2.2.2.2.2.2.2.2.2.1, gX4 (u 18) cB cI cJ cZ st.2.2.2.2.2.2.2.2.2.2.2.2.2.2.2.2.2.2.1, gX4 (u 19) cB cI cJ cZ st.2.2.2.2.2.2.2.2.2.2.2.2.2.2.2.2.2.2.2, wX12 mo cB cI cJ cZ ms]) cx lk_RL_93 (c_X11_shortest_1 l D cB cI cJ cZ (u 0) (u 6) (u 10) (u 7) (u 12) (u 14) (u 11) (u 1) (u 2) (u 3) (u 4) (u 5) (u 8) (u 9) (u 15) (u 0) (u 13) (st.1) (st.2.2.2.2.2.2.1) (st.2.2.2.2.2.2.2.2.2.2.1) (st.2.2.2.2.2.2.2.1) (st.2.2.2.2.2.2.2.2.2.2.2.2.1) (st.2.2.2.2.2.2.2.2.2.2.2.2.2.2.1) (st.2.2.2.2.2.2.2.2.2.2.2.1) (xs ((nI j) + 1).toNatClampNeg) (xs ((nI j) + 2).toNatClampNeg) (xs ((nI j) + 3).toNatClampNeg) (xs ((nI j) + 4).toNatClampNeg) tv q hq) rfl [0, 6, 10, 7, 12, 14, 11] rfl rfl rfl rfl (ci := 9) (q1 := 0) rfl rfl rfl (Nat.le_of_ble_eq_true rfl) ⟨rfl, rfl, Nat.le_of_ble_eq_true rfl, Nat.le_of_ble_eq_true rfl⟩ dL_law_815 ?_
    refine g_pop cx dL_law_818 rfl ?_
    refine g_aln cx 2 dL_law_819 rfl ?_
    refine g_aln cx 0 dL_law_820 rfl ?_
    refine g_iln cx 3 dL_law_821 rfl ?_
    refine g_ic cx dL_law_822 k_ic1 ?_
    refine g_iadd cx dL_law_823 ?_
    refine g_sld cx hX hbl (Nat.not_le.mpr hbl) (sc_in (c := 1) hj hL (by decide)) dL_law_824 ?_
    refine g_aln cx 0 dL_law_825 rfl ?_
    refine g_iln cx 3 dL_law_826 rfl ?_
    refine g_ic cx dL_law_827 k_ic2 ?_
    refine g_iadd cx dL_law_828 ?_
    refine g_sld cx hX hbl (Nat.not_le.mpr hbl) (sc_in (c := 2) hj hL (by decide)) dL_law_829 ?_
    refine g_aln cx 0 dL_law_830 rfl ?_
    refine g_iln cx 3 dL_law_831 rfl ?_
    refine g_ic cx dL_law_832 k_ic3 ?_
    refine g_iadd cx dL_law_833 ?_
    refine g_sld cx hX hbl (Nat.not_le.mpr hbl) (sc_in (c := 3) hj hL (by decide)) dL_law_834 ?_
    refine g_aln cx 0 dL_law_835 rfl ?_
    refine g_iln cx 3 dL_law_836 rfl ?_
    refine g_ic cx dL_law_837 k_ic4 ?_
    refine g_iadd cx dL_law_838 ?_
    refine g_sld cx hX hbl (Nat.not_le.mpr hbl) (sc_in (c := 4) hj hL (by decide)) dL_law_839 ?_
    refine g_callVGi (gc := [wX12 mo cB cI cJ cZ ms]) (g1 := [wX12 mo cB cI cJ cZ q2.2]) (gs' := [gX11 (u 0) cB cI cJ cZ (u 1 0) (u 2 0) (u 3 0) (u 4 0) (u 5 0) (u 6 0) (u 8 0) (u 9 0) (.ref (u 10 0)) (.ref (u 15 0)) st.1, gX8 (u 1) cB cI cJ cZ st.2.1, gX9 (u 2) cB cI cJ cZ st.2.2.1, gX4 (u 3) cB cI cJ cZ st.2.2.2.1, gX3 (u 4) cB cI cJ cZ st.2.2.2.2.1, gX2 (u 5) cB cI cJ cZ st.2.2.2.2.2.1, gX0 (u 6) cB cI cJ cZ (u 7 0) (.ref (u 10 0)) q.2.1, gX4 (u 7) cB cI cJ cZ q.2.2, gX4 (u 8) cB cI cJ cZ st.2.2.2.2.2.2.2.2.1, gX4 (u 9) cB cI cJ cZ st.2.2.2.2.2.2.2.2.2.1, gX7 (u 10) cB cI cJ cZ (u 11 0) (u 12 0) (u 13 0) (u 14 0) st.2.2.2.2.2.2.2.2.2.2.1, gX10 (u 11) cB cI cJ cZ st.2.2.2.2.2.2.2.2.2.2.2.1, gX1 (u 12) cB cI cJ cZ st.2.2.2.2.2.2.2.2.2.2.2.2.1, gX4 (u 13) cB cI cJ cZ st.2.2.2.2.2.2.2.2.2.2.2.2.2.1, gX4 (u 14) cB cI cJ cZ st.2.2.2.2.2.2.2.2.2.2.2.2.2.2.1, gX7 (u 15) cB cI cJ cZ (u 16 0) (u 17 0) (u 18 0) (u 19 0) st.2.2.2.2.2.2.2.2.2.2.2.2.2.2.2.1, gX10 (u 16) cB cI cJ cZ st.2.2.2.2.2.2.2.2.2.2.2.2.2.2.2.2.1, gX1 (u 17) cB cI cJ cZ st.2.2.2.2.2.2.2.2.2.2.2.2.2.2.2.2.2.1, gX4 (u 18) cB cI cJ cZ st.2.2.2.2.2.2.2.2.2.2.2.2.2.2.2.2.2.2.1, gX4 (u 19) cB cI cJ cZ st.2.2.2.2.2.2.2.2.2.2.2.2.2.2.2.2.2.2.2, wX12 mo cB cI cJ cZ q2.2]) cx lk_RL_96 (gm_one (c_X12_shortest l D cB cI cJ cZ mo ms (xs ((nI j) + 1).toNatClampNeg) (xs ((nI j) + 2).toNatClampNeg) (xs ((nI j) + 3).toNatClampNeg) (xs ((nI j) + 4).toNatClampNeg) q2 hq2)) rfl [20] rfl rfl rfl rfl (ci := 10) (q1 := 0) rfl rfl rfl (Nat.le_of_ble_eq_true rfl) ⟨rfl, rfl, Nat.le_of_ble_eq_true rfl, Nat.le_of_ble_eq_true rfl⟩ dL_law_840 ?_
    refine g_pop cx dL_law_843 rfl ?_
    refine g_goto (tgt := 1104) cx dL_law_844 rfl ?_
    exact kk u mo (st.1, st.2.1, st.2.2.1, st.2.2.2.1, st.2.2.2.2.1, st.2.2.2.2.2.1, q.2.1, q.2.2, st.2.2.2.2.2.2.2.2.1, st.2.2.2.2.2.2.2.2.2.1, st.2.2.2.2.2.2.2.2.2.2.1, st.2.2.2.2.2.2.2.2.2.2.2.1, st.2.2.2.2.2.2.2.2.2.2.2.2.1, st.2.2.2.2.2.2.2.2.2.2.2.2.2.1, st.2.2.2.2.2.2.2.2.2.2.2.2.2.2.1, st.2.2.2.2.2.2.2.2.2.2.2.2.2.2.2.1, st.2.2.2.2.2.2.2.2.2.2.2.2.2.2.2.2.1, st.2.2.2.2.2.2.2.2.2.2.2.2.2.2.2.2.2.1, st.2.2.2.2.2.2.2.2.2.2.2.2.2.2.2.2.2.2.1, st.2.2.2.2.2.2.2.2.2.2.2.2.2.2.2.2.2.2.2) (.ref (u 10 0)) (q2.2) hJ
set_option maxHeartbeats 4000000 in
set_option maxRecDepth 100000 in
theorem lwc_both {p : Program} {l : Launch} {e : Env} {s : State} {m : MethodId} {below : List Frame} {meth : Method} {c : Code} {D : gG} {cB cI cJ cZ : ClassId} {b L : Nat} {xs : Nat → Int32} {J2 : SX → SM → Prop} (cx : gX p s m #[Value.ref b] meth c cL_law 4 RL D (tyL cB cI cJ cZ) (fun q => s.heap.size ≤ q)) (hX : va_X b L xs s s.heap) (hbl : b < s.heap.size) {j : Nat} (hj : j + 5 ≤ L) (hL : L ≤ 2560) {u : Nat → Nat → Nat} {st : SX} {tv : Value} {mo : Nat → Nat} {ms : SM} (hs : StepOK J2 st ms) (kk : ∀ (u : Nat → Nat → Nat) (mo : Nat → Nat) (st : SX) (tv : Value) (ms : SM), J2 st ms → gW p l e room_1 s m #[Value.ref b] below meth c D (fun q => s.heap.size ≤ q) 4 (lw_Z below #[Value.ref b] s) 88 2324 (wL cB cI cJ cZ u st tv mo ms).flatten [(0, .ref b), (1, .ref (u 0 0)), (2, .ref (mo 0)), (3, .int (nI j))] 1104 []) : gW p l e room_1 s m #[Value.ref b] below meth c D (fun q => s.heap.size ≤ q) 4 (lw_Z below #[Value.ref b] s) 88 2324 (wL cB cI cJ cZ u st tv mo ms).flatten [(0, .ref b), (1, .ref (u 0 0)), (2, .ref (mo 0)), (3, .int (nI j))] 847 [] := by
  obtain ⟨r, r2, st2, ms2, h1, h2, hJ⟩ := hs.2.2.2.2.2.2.2.2.2.2.2.2.2.2.2.2.2.2.2.1 (xs ((nI j) + 1).toNatClampNeg)
  refine omap h2 (fun q2 hq2 he2 => ?_)
  obtain ⟨rfl, rfl⟩ := Prod.mk.inj he2
  clear h2 he2
  refine omap h1 (fun q hq he => ?_)
  obtain ⟨rfl, rfl⟩ := Prod.mk.inj he
  clear h1 he
  refine g_aln cx 1 dL_law_847 rfl ?_
  refine g_aln cx 0 dL_law_848 rfl ?_
  refine g_iln cx 3 dL_law_849 rfl ?_
  refine g_ic cx dL_law_850 k_ic1 ?_
  refine g_iadd cx dL_law_851 ?_
  refine g_sld cx hX hbl (Nat.not_le.mpr hbl) (sc_in (c := 1) hj hL (by decide)) dL_law_852 ?_
  refine g_callVGi (gs' := [gX11 (u 0) cB cI cJ cZ (u 1 0) (u 2 0) (u 3 0) (u 4 0) (u 5 0) (u 6 0) (u 8 0) (u 9 0) (.ref (u 10 0)) (.ref (u 15 0)) st.1, gX8 (u 1) cB cI cJ cZ st.2.1, gX9 (u 2) cB cI cJ cZ q.2, gX4 (u 3) cB cI cJ cZ st.2.2.2.1, gX3 (u 4) cB cI cJ cZ st.2.2.2.2.1, gX2 (u 5) cB cI cJ cZ st.2.2.2.2.2.1, gX0 (u 6) cB cI cJ cZ (u 7 0) tv st.2.2.2.2.2.2.1, gX4 (u 7) cB cI cJ cZ st.2.2.2.2.2.2.2.1, gX4 (u 8) cB cI cJ cZ st.2.2.2.2.2.2.2.2.1, gX4 (u 9) cB cI cJ cZ st.2.2.2.2.2.2.2.2.2.1, gX7 (u 10) cB cI cJ cZ (u 11 0) (u 12 0) (u 13 0) (u 14 0) st.2.2.2.2.2.2.2.2.2.2.1, gX10 (u 11) cB cI cJ cZ st.2.2.2.2.2.2.2.2.2.2.2.1, gX1 (u 12) cB cI cJ cZ st.2.2.2.2.2.2.2.2.2.2.2.2.1, gX4 (u 13) cB cI cJ cZ st.2.2.2.2.2.2.2.2.2.2.2.2.2.1, gX4 (u 14) cB cI cJ cZ st.2.2.2.2.2.2.2.2.2.2.2.2.2.2.1, gX7 (u 15) cB cI cJ cZ (u 16 0) (u 17 0) (u 18 0) (u 19 0) st.2.2.2.2.2.2.2.2.2.2.2.2.2.2.2.1, gX10 (u 16) cB cI cJ cZ st.2.2.2.2.2.2.2.2.2.2.2.2.2.2.2.2.1, gX1 (u 17) cB cI cJ cZ st.2.2.2.2.2.2.2.2.2.2.2.2.2.2.2.2.2.1, gX4 (u 18) cB cI cJ cZ st.2.2.2.2.2.2.2.2.2.2.2.2.2.2.2.2.2.2.1, gX4 (u 19) cB cI cJ cZ st.2.2.2.2.2.2.2.2.2.2.2.2.2.2.2.2.2.2.2, wX12 mo cB cI cJ cZ ms]) cx lk_RL_97 (c_X11_both l D cB cI cJ cZ (u 0) (u 10) (u 2) (u 12) (u 13) (u 11) (u 1) (u 3) (u 4) (u 5) (u 6) (u 8) (u 9) (u 15) (u 14) (st.1) (st.2.2.2.2.2.2.2.2.2.2.1) (st.2.2.1) (st.2.2.2.2.2.2.2.2.2.2.2.2.1) (st.2.2.2.2.2.2.2.2.2.2.2.2.2.1) (st.2.2.2.2.2.2.2.2.2.2.2.1) (xs ((nI j) + 1).toNatClampNeg) q hq) rfl [0, 10, 2, 12, 13, 11] rfl rfl rfl rfl (ci := 9) (q1 := 0) rfl rfl rfl (Nat.le_of_ble_eq_true rfl) ⟨rfl, rfl, Nat.le_of_ble_eq_true rfl, Nat.le_of_ble_eq_true rfl⟩ dL_law_853 ?_
  refine g_pop cx dL_law_856 rfl ?_
  refine g_aln cx 2 dL_law_857 rfl ?_
  refine g_aln cx 0 dL_law_858 rfl ?_
  refine g_iln cx 3 dL_law_859 rfl ?_
  refine g_ic cx dL_law_860 k_ic1 ?_
  refine g_iadd cx dL_law_861 ?_
  refine g_sld cx hX hbl (Nat.not_le.mpr hbl) (sc_in (c := 1) hj hL (by decide)) dL_law_862 ?_
  refine g_callVGi (gc := [wX12 mo cB cI cJ cZ ms]) (g1 := [wX12 mo cB cI cJ cZ q2.2]) (gs' := [gX11 (u 0) cB cI cJ cZ (u 1 0) (u 2 0) (u 3 0) (u 4 0) (u 5 0) (u 6 0) (u 8 0) (u 9 0) (.ref (u 10 0)) (.ref (u 15 0)) st.1, gX8 (u 1) cB cI cJ cZ st.2.1, gX9 (u 2) cB cI cJ cZ q.2, gX4 (u 3) cB cI cJ cZ st.2.2.2.1, gX3 (u 4) cB cI cJ cZ st.2.2.2.2.1, gX2 (u 5) cB cI cJ cZ st.2.2.2.2.2.1, gX0 (u 6) cB cI cJ cZ (u 7 0) tv st.2.2.2.2.2.2.1, gX4 (u 7) cB cI cJ cZ st.2.2.2.2.2.2.2.1, gX4 (u 8) cB cI cJ cZ st.2.2.2.2.2.2.2.2.1, gX4 (u 9) cB cI cJ cZ st.2.2.2.2.2.2.2.2.2.1, gX7 (u 10) cB cI cJ cZ (u 11 0) (u 12 0) (u 13 0) (u 14 0) st.2.2.2.2.2.2.2.2.2.2.1, gX10 (u 11) cB cI cJ cZ st.2.2.2.2.2.2.2.2.2.2.2.1, gX1 (u 12) cB cI cJ cZ st.2.2.2.2.2.2.2.2.2.2.2.2.1, gX4 (u 13) cB cI cJ cZ st.2.2.2.2.2.2.2.2.2.2.2.2.2.1, gX4 (u 14) cB cI cJ cZ st.2.2.2.2.2.2.2.2.2.2.2.2.2.2.1, gX7 (u 15) cB cI cJ cZ (u 16 0) (u 17 0) (u 18 0) (u 19 0) st.2.2.2.2.2.2.2.2.2.2.2.2.2.2.2.1, gX10 (u 16) cB cI cJ cZ st.2.2.2.2.2.2.2.2.2.2.2.2.2.2.2.2.1, gX1 (u 17) cB cI cJ cZ st.2.2.2.2.2.2.2.2.2.2.2.2.2.2.2.2.2.1, gX4 (u 18) cB cI cJ cZ st.2.2.2.2.2.2.2.2.2.2.2.2.2.2.2.2.2.2.1, gX4 (u 19) cB cI cJ cZ st.2.2.2.2.2.2.2.2.2.2.2.2.2.2.2.2.2.2.2, wX12 mo cB cI cJ cZ q2.2]) cx lk_RL_100 (gm_one (c_X12_both l D cB cI cJ cZ mo ms (xs ((nI j) + 1).toNatClampNeg) q2 hq2)) rfl [20] rfl rfl rfl rfl (ci := 10) (q1 := 0) rfl rfl rfl (Nat.le_of_ble_eq_true rfl) ⟨rfl, rfl, Nat.le_of_ble_eq_true rfl, Nat.le_of_ble_eq_true rfl⟩ dL_law_863 ?_
  refine g_pop cx dL_law_866 rfl ?_
  refine g_goto (tgt := 1104) cx dL_law_867 rfl ?_
  exact kk u mo (st.1, st.2.1, q.2, st.2.2.2.1, st.2.2.2.2.1, st.2.2.2.2.2.1, st.2.2.2.2.2.2.1, st.2.2.2.2.2.2.2.1, st.2.2.2.2.2.2.2.2.1, st.2.2.2.2.2.2.2.2.2.1, st.2.2.2.2.2.2.2.2.2.2.1, st.2.2.2.2.2.2.2.2.2.2.2.1, st.2.2.2.2.2.2.2.2.2.2.2.2.1, st.2.2.2.2.2.2.2.2.2.2.2.2.2.1, st.2.2.2.2.2.2.2.2.2.2.2.2.2.2.1, st.2.2.2.2.2.2.2.2.2.2.2.2.2.2.2.1, st.2.2.2.2.2.2.2.2.2.2.2.2.2.2.2.2.1, st.2.2.2.2.2.2.2.2.2.2.2.2.2.2.2.2.2.1, st.2.2.2.2.2.2.2.2.2.2.2.2.2.2.2.2.2.2.1, st.2.2.2.2.2.2.2.2.2.2.2.2.2.2.2.2.2.2.2) tv (q2.2) hJ
set_option maxHeartbeats 4000000 in
set_option maxRecDepth 100000 in
theorem lwc_parting {p : Program} {l : Launch} {e : Env} {s : State} {m : MethodId} {below : List Frame} {meth : Method} {c : Code} {D : gG} {cB cI cJ cZ : ClassId} {b L : Nat} {xs : Nat → Int32} {J2 : SX → SM → Prop} (cx : gX p s m #[Value.ref b] meth c cL_law 4 RL D (tyL cB cI cJ cZ) (fun q => s.heap.size ≤ q)) (hX : va_X b L xs s s.heap) (hbl : b < s.heap.size) {j : Nat} (hj : j + 5 ≤ L) (hL : L ≤ 2560) {u : Nat → Nat → Nat} {st : SX} {tv : Value} {mo : Nat → Nat} {ms : SM} (hs : StepOK J2 st ms) (kk : ∀ (u : Nat → Nat → Nat) (mo : Nat → Nat) (st : SX) (tv : Value) (ms : SM), J2 st ms → gW p l e room_1 s m #[Value.ref b] below meth c D (fun q => s.heap.size ≤ q) 4 (lw_Z below #[Value.ref b] s) 88 2324 (wL cB cI cJ cZ u st tv mo ms).flatten [(0, .ref b), (1, .ref (u 0 0)), (2, .ref (mo 0)), (3, .int (nI j))] 1104 []) : gW p l e room_1 s m #[Value.ref b] below meth c D (fun q => s.heap.size ≤ q) 4 (lw_Z below #[Value.ref b] s) 88 2324 (wL cB cI cJ cZ u st tv mo ms).flatten [(0, .ref b), (1, .ref (u 0 0)), (2, .ref (mo 0)), (3, .int (nI j))] 870 [] := by
  obtain ⟨r, r2, st2, ms2, h1, h2, hJ⟩ := hs.2.2.2.2.2.2.2.2.2.2.2.2.2.2.2.2.2.2.2.2.1 (xs ((nI j) + 1).toNatClampNeg)
  refine omap h2 (fun q2 hq2 he2 => ?_)
  obtain ⟨rfl, rfl⟩ := Prod.mk.inj he2
  clear h2 he2
  refine omap h1 (fun q hq he => ?_)
  obtain ⟨rfl, rfl⟩ := Prod.mk.inj he
  clear h1 he
  refine g_aln cx 1 dL_law_870 rfl ?_
  refine g_aln cx 0 dL_law_871 rfl ?_
  refine g_iln cx 3 dL_law_872 rfl ?_
  refine g_ic cx dL_law_873 k_ic1 ?_
  refine g_iadd cx dL_law_874 ?_
  refine g_sld cx hX hbl (Nat.not_le.mpr hbl) (sc_in (c := 1) hj hL (by decide)) dL_law_875 ?_
  refine g_callVGi (gs' := [gX11 (u 0) cB cI cJ cZ (u 1 0) (u 2 0) (u 3 0) (u 4 0) (u 5 0) (u 6 0) (u 8 0) (u 9 0) (.ref (u 10 0)) (.ref (u 15 0)) st.1, gX8 (u 1) cB cI cJ cZ st.2.1, gX9 (u 2) cB cI cJ cZ q.2.1, gX4 (u 3) cB cI cJ cZ st.2.2.2.1, gX3 (u 4) cB cI cJ cZ st.2.2.2.2.1, gX2 (u 5) cB cI cJ cZ st.2.2.2.2.2.1, gX0 (u 6) cB cI cJ cZ (u 7 0) tv st.2.2.2.2.2.2.1, gX4 (u 7) cB cI cJ cZ st.2.2.2.2.2.2.2.1, gX4 (u 8) cB cI cJ cZ st.2.2.2.2.2.2.2.2.1, gX4 (u 9) cB cI cJ cZ st.2.2.2.2.2.2.2.2.2.1, gX7 (u 10) cB cI cJ cZ (u 11 0) (u 12 0) (u 13 0) (u 14 0) st.2.2.2.2.2.2.2.2.2.2.1, gX10 (u 11) cB cI cJ cZ q.2.2, gX1 (u 12) cB cI cJ cZ st.2.2.2.2.2.2.2.2.2.2.2.2.1, gX4 (u 13) cB cI cJ cZ st.2.2.2.2.2.2.2.2.2.2.2.2.2.1, gX4 (u 14) cB cI cJ cZ st.2.2.2.2.2.2.2.2.2.2.2.2.2.2.1, gX7 (u 15) cB cI cJ cZ (u 16 0) (u 17 0) (u 18 0) (u 19 0) st.2.2.2.2.2.2.2.2.2.2.2.2.2.2.2.1, gX10 (u 16) cB cI cJ cZ st.2.2.2.2.2.2.2.2.2.2.2.2.2.2.2.2.1, gX1 (u 17) cB cI cJ cZ st.2.2.2.2.2.2.2.2.2.2.2.2.2.2.2.2.2.1, gX4 (u 18) cB cI cJ cZ st.2.2.2.2.2.2.2.2.2.2.2.2.2.2.2.2.2.2.1, gX4 (u 19) cB cI cJ cZ st.2.2.2.2.2.2.2.2.2.2.2.2.2.2.2.2.2.2.2, wX12 mo cB cI cJ cZ ms]) cx lk_RL_101 (c_X11_parting l D cB cI cJ cZ (u 0) (u 10) (u 2) (u 12) (u 13) (u 11) (u 1) (u 3) (u 4) (u 5) (u 6) (u 8) (u 9) (u 15) (u 14) (st.1) (st.2.2.2.2.2.2.2.2.2.2.1) (st.2.2.1) (st.2.2.2.2.2.2.2.2.2.2.2.2.1) (st.2.2.2.2.2.2.2.2.2.2.2.2.2.1) (st.2.2.2.2.2.2.2.2.2.2.2.1) (xs ((nI j) + 1).toNatClampNeg) q hq) rfl [0, 10, 2, 12, 13, 11] rfl rfl rfl rfl (ci := 9) (q1 := 0) rfl rfl rfl (Nat.le_of_ble_eq_true rfl) ⟨rfl, rfl, Nat.le_of_ble_eq_true rfl, Nat.le_of_ble_eq_true rfl⟩ dL_law_876 ?_
  refine g_pop cx dL_law_879 rfl ?_
  refine g_aln cx 2 dL_law_880 rfl ?_
  refine g_aln cx 0 dL_law_881 rfl ?_
  refine g_iln cx 3 dL_law_882 rfl ?_
  refine g_ic cx dL_law_883 k_ic1 ?_
  refine g_iadd cx dL_law_884 ?_
  refine g_sld cx hX hbl (Nat.not_le.mpr hbl) (sc_in (c := 1) hj hL (by decide)) dL_law_885 ?_
  refine g_callVGi (gc := [wX12 mo cB cI cJ cZ ms]) (g1 := [wX12 mo cB cI cJ cZ q2.2]) (gs' := [gX11 (u 0) cB cI cJ cZ (u 1 0) (u 2 0) (u 3 0) (u 4 0) (u 5 0) (u 6 0) (u 8 0) (u 9 0) (.ref (u 10 0)) (.ref (u 15 0)) st.1, gX8 (u 1) cB cI cJ cZ st.2.1, gX9 (u 2) cB cI cJ cZ q.2.1, gX4 (u 3) cB cI cJ cZ st.2.2.2.1, gX3 (u 4) cB cI cJ cZ st.2.2.2.2.1, gX2 (u 5) cB cI cJ cZ st.2.2.2.2.2.1, gX0 (u 6) cB cI cJ cZ (u 7 0) tv st.2.2.2.2.2.2.1, gX4 (u 7) cB cI cJ cZ st.2.2.2.2.2.2.2.1, gX4 (u 8) cB cI cJ cZ st.2.2.2.2.2.2.2.2.1, gX4 (u 9) cB cI cJ cZ st.2.2.2.2.2.2.2.2.2.1, gX7 (u 10) cB cI cJ cZ (u 11 0) (u 12 0) (u 13 0) (u 14 0) st.2.2.2.2.2.2.2.2.2.2.1, gX10 (u 11) cB cI cJ cZ q.2.2, gX1 (u 12) cB cI cJ cZ st.2.2.2.2.2.2.2.2.2.2.2.2.1, gX4 (u 13) cB cI cJ cZ st.2.2.2.2.2.2.2.2.2.2.2.2.2.1, gX4 (u 14) cB cI cJ cZ st.2.2.2.2.2.2.2.2.2.2.2.2.2.2.1, gX7 (u 15) cB cI cJ cZ (u 16 0) (u 17 0) (u 18 0) (u 19 0) st.2.2.2.2.2.2.2.2.2.2.2.2.2.2.2.1, gX10 (u 16) cB cI cJ cZ st.2.2.2.2.2.2.2.2.2.2.2.2.2.2.2.2.1, gX1 (u 17) cB cI cJ cZ st.2.2.2.2.2.2.2.2.2.2.2.2.2.2.2.2.2.1, gX4 (u 18) cB cI cJ cZ st.2.2.2.2.2.2.2.2.2.2.2.2.2.2.2.2.2.2.1, gX4 (u 19) cB cI cJ cZ st.2.2.2.2.2.2.2.2.2.2.2.2.2.2.2.2.2.2.2, wX12 mo cB cI cJ cZ q2.2]) cx lk_RL_104 (gm_one (c_X12_parting l D cB cI cJ cZ mo ms (xs ((nI j) + 1).toNatClampNeg) q2 hq2)) rfl [20] rfl rfl rfl rfl (ci := 10) (q1 := 0) rfl rfl rfl (Nat.le_of_ble_eq_true rfl) ⟨rfl, rfl, Nat.le_of_ble_eq_true rfl, Nat.le_of_ble_eq_true rfl⟩ dL_law_886 ?_
  refine g_pop cx dL_law_889 rfl ?_
  refine g_goto (tgt := 1104) cx dL_law_890 rfl ?_
  exact kk u mo (st.1, st.2.1, q.2.1, st.2.2.2.1, st.2.2.2.2.1, st.2.2.2.2.2.1, st.2.2.2.2.2.2.1, st.2.2.2.2.2.2.2.1, st.2.2.2.2.2.2.2.2.1, st.2.2.2.2.2.2.2.2.2.1, st.2.2.2.2.2.2.2.2.2.2.1, q.2.2, st.2.2.2.2.2.2.2.2.2.2.2.2.1, st.2.2.2.2.2.2.2.2.2.2.2.2.2.1, st.2.2.2.2.2.2.2.2.2.2.2.2.2.2.1, st.2.2.2.2.2.2.2.2.2.2.2.2.2.2.2.1, st.2.2.2.2.2.2.2.2.2.2.2.2.2.2.2.2.1, st.2.2.2.2.2.2.2.2.2.2.2.2.2.2.2.2.2.1, st.2.2.2.2.2.2.2.2.2.2.2.2.2.2.2.2.2.2.1, st.2.2.2.2.2.2.2.2.2.2.2.2.2.2.2.2.2.2.2) tv (q2.2) hJ
set_option maxHeartbeats 4000000 in
set_option maxRecDepth 100000 in
theorem lwc_forged {p : Program} {l : Launch} {e : Env} {s : State} {m : MethodId} {below : List Frame} {meth : Method} {c : Code} {D : gG} {cB cI cJ cZ : ClassId} {b L : Nat} {xs : Nat → Int32} {J2 : SX → SM → Prop} (cx : gX p s m #[Value.ref b] meth c cL_law 4 RL D (tyL cB cI cJ cZ) (fun q => s.heap.size ≤ q)) (hX : va_X b L xs s s.heap) (hbl : b < s.heap.size) {j : Nat} (hj : j + 5 ≤ L) (hL : L ≤ 2560) {u : Nat → Nat → Nat} {st : SX} {tv : Value} {mo : Nat → Nat} {ms : SM} (hs : StepOK J2 st ms) (kk : ∀ (u : Nat → Nat → Nat) (mo : Nat → Nat) (st : SX) (tv : Value) (ms : SM), J2 st ms → gW p l e room_1 s m #[Value.ref b] below meth c D (fun q => s.heap.size ≤ q) 4 (lw_Z below #[Value.ref b] s) 88 2324 (wL cB cI cJ cZ u st tv mo ms).flatten [(0, .ref b), (1, .ref (u 0 0)), (2, .ref (mo 0)), (3, .int (nI j))] 1104 []) : gW p l e room_1 s m #[Value.ref b] below meth c D (fun q => s.heap.size ≤ q) 4 (lw_Z below #[Value.ref b] s) 88 2324 (wL cB cI cJ cZ u st tv mo ms).flatten [(0, .ref b), (1, .ref (u 0 0)), (2, .ref (mo 0)), (3, .int (nI j))] 893 [] := by
  obtain ⟨r, r2, st2, ms2, h1, h2, heq, hJ⟩ := hs.2.2.2.2.2.2.2.2.2.2.2.2.2.2.2.2.2.2.2.2.2.1 (xs ((nI j) + 1).toNatClampNeg) (xs ((nI j) + 2).toNatClampNeg) (xs ((nI j) + 3).toNatClampNeg)
  refine omap h2 (fun q2 hq2 he2 => ?_)
  obtain ⟨rfl, rfl⟩ := Prod.mk.inj he2
  clear h2 he2
  refine omap h1 (fun q hq he => ?_)
  obtain ⟨rfl, rfl⟩ := Prod.mk.inj he
  clear h1 he
  refine g_aln cx 1 dL_law_893 rfl ?_
  refine g_aln cx 0 dL_law_894 rfl ?_
  refine g_iln cx 3 dL_law_895 rfl ?_
  refine g_ic cx dL_law_896 k_ic1 ?_
  refine g_iadd cx dL_law_897 ?_
  refine g_sld cx hX hbl (Nat.not_le.mpr hbl) (sc_in (c := 1) hj hL (by decide)) dL_law_898 ?_
  refine g_aln cx 0 dL_law_899 rfl ?_
  refine g_iln cx 3 dL_law_900 rfl ?_
  refine g_ic cx dL_law_901 k_ic2 ?_
  refine g_iadd cx dL_law_902 ?_
  refine g_sld cx hX hbl (Nat.not_le.mpr hbl) (sc_in (c := 2) hj hL (by decide)) dL_law_903 ?_
  refine g_aln cx 0 dL_law_904 rfl ?_
  refine g_iln cx 3 dL_law_905 rfl ?_
  refine g_ic cx dL_law_906 k_ic3 ?_
  refine g_iadd cx dL_law_907 ?_
  refine g_sld cx hX hbl (Nat.not_le.mpr hbl) (sc_in (c := 3) hj hL (by decide)) dL_law_908 ?_
  refine g_callVGi (gs' := [gX11 (u 0) cB cI cJ cZ (u 1 0) (u 2 0) (u 3 0) (u 4 0) (u 5 0) (u 6 0) (u 8 0) (u 9 0) (.ref (u 10 0)) (.ref (u 15 0)) st.1, gX8 (u 1) cB cI cJ cZ st.2.1, gX9 (u 2) cB cI cJ cZ q.2.2, gX4 (u 3) cB cI cJ cZ q.2.1, gX3 (u 4) cB cI cJ cZ st.2.2.2.2.1, gX2 (u 5) cB cI cJ cZ st.2.2.2.2.2.1, gX0 (u 6) cB cI cJ cZ (u 7 0) tv st.2.2.2.2.2.2.1, gX4 (u 7) cB cI cJ cZ st.2.2.2.2.2.2.2.1, gX4 (u 8) cB cI cJ cZ st.2.2.2.2.2.2.2.2.1, gX4 (u 9) cB cI cJ cZ st.2.2.2.2.2.2.2.2.2.1, gX7 (u 10) cB cI cJ cZ (u 11 0) (u 12 0) (u 13 0) (u 14 0) st.2.2.2.2.2.2.2.2.2.2.1, gX10 (u 11) cB cI cJ cZ st.2.2.2.2.2.2.2.2.2.2.2.1, gX1 (u 12) cB cI cJ cZ st.2.2.2.2.2.2.2.2.2.2.2.2.1, gX4 (u 13) cB cI cJ cZ st.2.2.2.2.2.2.2.2.2.2.2.2.2.1, gX4 (u 14) cB cI cJ cZ st.2.2.2.2.2.2.2.2.2.2.2.2.2.2.1, gX7 (u 15) cB cI cJ cZ (u 16 0) (u 17 0) (u 18 0) (u 19 0) st.2.2.2.2.2.2.2.2.2.2.2.2.2.2.2.1, gX10 (u 16) cB cI cJ cZ st.2.2.2.2.2.2.2.2.2.2.2.2.2.2.2.2.1, gX1 (u 17) cB cI cJ cZ st.2.2.2.2.2.2.2.2.2.2.2.2.2.2.2.2.2.1, gX4 (u 18) cB cI cJ cZ st.2.2.2.2.2.2.2.2.2.2.2.2.2.2.2.2.2.2.1, gX4 (u 19) cB cI cJ cZ st.2.2.2.2.2.2.2.2.2.2.2.2.2.2.2.2.2.2.2, wX12 mo cB cI cJ cZ ms]) cx lk_RL_105 (c_X11_forged l D cB cI cJ cZ (u 0) (u 10) (u 3) (u 2) (u 12) (u 13) (u 14) (u 11) (u 1) (u 4) (u 5) (u 6) (u 8) (u 9) (u 15) (st.1) (st.2.2.2.2.2.2.2.2.2.2.1) (st.2.2.2.1) (st.2.2.1) (st.2.2.2.2.2.2.2.2.2.2.2.2.1) (st.2.2.2.2.2.2.2.2.2.2.2.2.2.1) (st.2.2.2.2.2.2.2.2.2.2.2.2.2.2.1) (st.2.2.2.2.2.2.2.2.2.2.2.1) (xs ((nI j) + 1).toNatClampNeg) (xs ((nI j) + 2).toNatClampNeg) (xs ((nI j) + 3).toNatClampNeg) q hq) rfl [0, 10, 3, 2, 12, 13, 14, 11] rfl rfl rfl rfl (ci := 9) (q1 := 0) rfl rfl rfl (Nat.le_of_ble_eq_true rfl) ⟨rfl, rfl, Nat.le_of_ble_eq_true rfl, Nat.le_of_ble_eq_true rfl⟩ dL_law_909 ?_
  refine g_aln cx 2 dL_law_912 rfl ?_
  refine g_aln cx 0 dL_law_913 rfl ?_
  refine g_iln cx 3 dL_law_914 rfl ?_
  refine g_ic cx dL_law_915 k_ic1 ?_
  refine g_iadd cx dL_law_916 ?_
  refine g_sld cx hX hbl (Nat.not_le.mpr hbl) (sc_in (c := 1) hj hL (by decide)) dL_law_917 ?_
  refine g_aln cx 0 dL_law_918 rfl ?_
  refine g_iln cx 3 dL_law_919 rfl ?_
  refine g_ic cx dL_law_920 k_ic2 ?_
  refine g_iadd cx dL_law_921 ?_
  refine g_sld cx hX hbl (Nat.not_le.mpr hbl) (sc_in (c := 2) hj hL (by decide)) dL_law_922 ?_
  refine g_aln cx 0 dL_law_923 rfl ?_
  refine g_iln cx 3 dL_law_924 rfl ?_
  refine g_ic cx dL_law_925 k_ic3 ?_
  refine g_iadd cx dL_law_926 ?_
  refine g_sld cx hX hbl (Nat.not_le.mpr hbl) (sc_in (c := 3) hj hL (by decide)) dL_law_927 ?_
  refine g_callVGi (gc := [wX12 mo cB cI cJ cZ ms]) (g1 := [wX12 mo cB cI cJ cZ q2.2]) (gs' := [gX11 (u 0) cB cI cJ cZ (u 1 0) (u 2 0) (u 3 0) (u 4 0) (u 5 0) (u 6 0) (u 8 0) (u 9 0) (.ref (u 10 0)) (.ref (u 15 0)) st.1, gX8 (u 1) cB cI cJ cZ st.2.1, gX9 (u 2) cB cI cJ cZ q.2.2, gX4 (u 3) cB cI cJ cZ q.2.1, gX3 (u 4) cB cI cJ cZ st.2.2.2.2.1, gX2 (u 5) cB cI cJ cZ st.2.2.2.2.2.1, gX0 (u 6) cB cI cJ cZ (u 7 0) tv st.2.2.2.2.2.2.1, gX4 (u 7) cB cI cJ cZ st.2.2.2.2.2.2.2.1, gX4 (u 8) cB cI cJ cZ st.2.2.2.2.2.2.2.2.1, gX4 (u 9) cB cI cJ cZ st.2.2.2.2.2.2.2.2.2.1, gX7 (u 10) cB cI cJ cZ (u 11 0) (u 12 0) (u 13 0) (u 14 0) st.2.2.2.2.2.2.2.2.2.2.1, gX10 (u 11) cB cI cJ cZ st.2.2.2.2.2.2.2.2.2.2.2.1, gX1 (u 12) cB cI cJ cZ st.2.2.2.2.2.2.2.2.2.2.2.2.1, gX4 (u 13) cB cI cJ cZ st.2.2.2.2.2.2.2.2.2.2.2.2.2.1, gX4 (u 14) cB cI cJ cZ st.2.2.2.2.2.2.2.2.2.2.2.2.2.2.1, gX7 (u 15) cB cI cJ cZ (u 16 0) (u 17 0) (u 18 0) (u 19 0) st.2.2.2.2.2.2.2.2.2.2.2.2.2.2.2.1, gX10 (u 16) cB cI cJ cZ st.2.2.2.2.2.2.2.2.2.2.2.2.2.2.2.2.1, gX1 (u 17) cB cI cJ cZ st.2.2.2.2.2.2.2.2.2.2.2.2.2.2.2.2.2.1, gX4 (u 18) cB cI cJ cZ st.2.2.2.2.2.2.2.2.2.2.2.2.2.2.2.2.2.2.1, gX4 (u 19) cB cI cJ cZ st.2.2.2.2.2.2.2.2.2.2.2.2.2.2.2.2.2.2.2, wX12 mo cB cI cJ cZ q2.2]) cx lk_RL_108 (gm_one (c_X12_forged l D cB cI cJ cZ mo ms (xs ((nI j) + 1).toNatClampNeg) (xs ((nI j) + 2).toNatClampNeg) (xs ((nI j) + 3).toNatClampNeg) q2 hq2)) rfl [20] rfl rfl rfl rfl (ci := 10) (q1 := 0) rfl rfl rfl (Nat.le_of_ble_eq_true rfl) ⟨rfl, rfl, Nat.le_of_ble_eq_true rfl, Nat.le_of_ble_eq_true rfl⟩ dL_law_928 ?_
  refine g_ceqT (tgt := 1104) cx heq dL_law_931 rfl ?_
  exact kk u mo (st.1, st.2.1, q.2.2, q.2.1, st.2.2.2.2.1, st.2.2.2.2.2.1, st.2.2.2.2.2.2.1, st.2.2.2.2.2.2.2.1, st.2.2.2.2.2.2.2.2.1, st.2.2.2.2.2.2.2.2.2.1, st.2.2.2.2.2.2.2.2.2.2.1, st.2.2.2.2.2.2.2.2.2.2.2.1, st.2.2.2.2.2.2.2.2.2.2.2.2.1, st.2.2.2.2.2.2.2.2.2.2.2.2.2.1, st.2.2.2.2.2.2.2.2.2.2.2.2.2.2.1, st.2.2.2.2.2.2.2.2.2.2.2.2.2.2.2.1, st.2.2.2.2.2.2.2.2.2.2.2.2.2.2.2.2.1, st.2.2.2.2.2.2.2.2.2.2.2.2.2.2.2.2.2.1, st.2.2.2.2.2.2.2.2.2.2.2.2.2.2.2.2.2.2.1, st.2.2.2.2.2.2.2.2.2.2.2.2.2.2.2.2.2.2.2) tv (q2.2) hJ
set_option maxHeartbeats 4000000 in
set_option maxRecDepth 100000 in
theorem lwc_burnt {p : Program} {l : Launch} {e : Env} {s : State} {m : MethodId} {below : List Frame} {meth : Method} {c : Code} {D : gG} {cB cI cJ cZ : ClassId} {b L : Nat} {xs : Nat → Int32} {J2 : SX → SM → Prop} (cx : gX p s m #[Value.ref b] meth c cL_law 4 RL D (tyL cB cI cJ cZ) (fun q => s.heap.size ≤ q)) (hX : va_X b L xs s s.heap) (hbl : b < s.heap.size) {j : Nat} (hj : j + 5 ≤ L) (hL : L ≤ 2560) {u : Nat → Nat → Nat} {st : SX} {tv : Value} {mo : Nat → Nat} {ms : SM} (hs : StepOK J2 st ms) (kk : ∀ (u : Nat → Nat → Nat) (mo : Nat → Nat) (st : SX) (tv : Value) (ms : SM), J2 st ms → gW p l e room_1 s m #[Value.ref b] below meth c D (fun q => s.heap.size ≤ q) 4 (lw_Z below #[Value.ref b] s) 88 2324 (wL cB cI cJ cZ u st tv mo ms).flatten [(0, .ref b), (1, .ref (u 0 0)), (2, .ref (mo 0)), (3, .int (nI j))] 1104 []) : gW p l e room_1 s m #[Value.ref b] below meth c D (fun q => s.heap.size ≤ q) 4 (lw_Z below #[Value.ref b] s) 88 2324 (wL cB cI cJ cZ u st tv mo ms).flatten [(0, .ref b), (1, .ref (u 0 0)), (2, .ref (mo 0)), (3, .int (nI j))] 936 [] := by
  obtain ⟨r, r2, st2, ms2, h1, h2, hJ⟩ := hs.2.2.2.2.2.2.2.2.2.2.2.2.2.2.2.2.2.2.2.2.2.2.1 (xs ((nI j) + 1).toNatClampNeg) (xs ((nI j) + 2).toNatClampNeg) (xs ((nI j) + 3).toNatClampNeg) (xs ((nI j) + 4).toNatClampNeg)
  refine omap h2 (fun q2 hq2 he2 => ?_)
  obtain ⟨rfl, rfl⟩ := Prod.mk.inj he2
  clear h2 he2
  refine omap h1 (fun q hq he => ?_)
  obtain ⟨rfl, rfl⟩ := Prod.mk.inj he
  clear h1 he
  refine g_aln cx 1 dL_law_936 rfl ?_
  refine g_aln cx 0 dL_law_937 rfl ?_
  refine g_iln cx 3 dL_law_938 rfl ?_
  refine g_ic cx dL_law_939 k_ic1 ?_
  refine g_iadd cx dL_law_940 ?_
  refine g_sld cx hX hbl (Nat.not_le.mpr hbl) (sc_in (c := 1) hj hL (by decide)) dL_law_941 ?_
  refine g_aln cx 0 dL_law_942 rfl ?_
  refine g_iln cx 3 dL_law_943 rfl ?_
  refine g_ic cx dL_law_944 k_ic2 ?_
  refine g_iadd cx dL_law_945 ?_
  refine g_sld cx hX hbl (Nat.not_le.mpr hbl) (sc_in (c := 2) hj hL (by decide)) dL_law_946 ?_
  refine g_aln cx 0 dL_law_947 rfl ?_
  refine g_iln cx 3 dL_law_948 rfl ?_
  refine g_ic cx dL_law_949 k_ic3 ?_
  refine g_iadd cx dL_law_950 ?_
  refine g_sld cx hX hbl (Nat.not_le.mpr hbl) (sc_in (c := 3) hj hL (by decide)) dL_law_951 ?_
  refine g_aln cx 0 dL_law_952 rfl ?_
  refine g_iln cx 3 dL_law_953 rfl ?_
  refine g_ic cx dL_law_954 k_ic4 ?_
  refine g_iadd cx dL_law_955 ?_
  refine g_sld cx hX hbl (Nat.not_le.mpr hbl) (sc_in (c := 4) hj hL (by decide)) dL_law_956 ?_
  refine g_callVGl (gs' := [gX11 (u 0) cB cI cJ cZ (u 1 0) (u 2 0) (u 3 0) (u 4 0) (u 5 0) (u 6 0) (u 8 0) (u 9 0) (.ref (u 10 0)) (.ref (u 15 0)) st.1, gX8 (u 1) cB cI cJ cZ st.2.1, gX9 (u 2) cB cI cJ cZ st.2.2.1, gX4 (u 3) cB cI cJ cZ st.2.2.2.1, gX3 (u 4) cB cI cJ cZ st.2.2.2.2.1, gX2 (u 5) cB cI cJ cZ q.2, gX0 (u 6) cB cI cJ cZ (u 7 0) tv st.2.2.2.2.2.2.1, gX4 (u 7) cB cI cJ cZ st.2.2.2.2.2.2.2.1, gX4 (u 8) cB cI cJ cZ st.2.2.2.2.2.2.2.2.1, gX4 (u 9) cB cI cJ cZ st.2.2.2.2.2.2.2.2.2.1, gX7 (u 10) cB cI cJ cZ (u 11 0) (u 12 0) (u 13 0) (u 14 0) st.2.2.2.2.2.2.2.2.2.2.1, gX10 (u 11) cB cI cJ cZ st.2.2.2.2.2.2.2.2.2.2.2.1, gX1 (u 12) cB cI cJ cZ st.2.2.2.2.2.2.2.2.2.2.2.2.1, gX4 (u 13) cB cI cJ cZ st.2.2.2.2.2.2.2.2.2.2.2.2.2.1, gX4 (u 14) cB cI cJ cZ st.2.2.2.2.2.2.2.2.2.2.2.2.2.2.1, gX7 (u 15) cB cI cJ cZ (u 16 0) (u 17 0) (u 18 0) (u 19 0) st.2.2.2.2.2.2.2.2.2.2.2.2.2.2.2.1, gX10 (u 16) cB cI cJ cZ st.2.2.2.2.2.2.2.2.2.2.2.2.2.2.2.2.1, gX1 (u 17) cB cI cJ cZ st.2.2.2.2.2.2.2.2.2.2.2.2.2.2.2.2.2.1, gX4 (u 18) cB cI cJ cZ st.2.2.2.2.2.2.2.2.2.2.2.2.2.2.2.2.2.2.1, gX4 (u 19) cB cI cJ cZ st.2.2.2.2.2.2.2.2.2.2.2.2.2.2.2.2.2.2.2, wX12 mo cB cI cJ cZ ms]) cx lk_RL_109 (c_X11_burnt l D cB cI cJ cZ (u 0) (u 5) (u 10) (u 12) (u 13) (u 11) (u 1) (u 2) (u 3) (u 4) (u 6) (u 8) (u 9) (u 15) (u 14) (st.1) (st.2.2.2.2.2.1) (st.2.2.2.2.2.2.2.2.2.2.1) (st.2.2.2.2.2.2.2.2.2.2.2.2.1) (st.2.2.2.2.2.2.2.2.2.2.2.2.2.1) (st.2.2.2.2.2.2.2.2.2.2.2.1) (xs ((nI j) + 1).toNatClampNeg) (xs ((nI j) + 2).toNatClampNeg) (xs ((nI j) + 3).toNatClampNeg) (xs ((nI j) + 4).toNatClampNeg) q hq) rfl [0, 5, 10, 12, 13, 11] rfl rfl rfl rfl (ci := 9) (q1 := 0) rfl rfl rfl (Nat.le_of_ble_eq_true rfl) ⟨rfl, rfl, Nat.le_of_ble_eq_true rfl, Nat.le_of_ble_eq_true rfl⟩ dL_law_957 ?_
  refine g_pop2 cx dL_law_960 ?_
  refine g_aln cx 2 dL_law_961 rfl ?_
  refine g_aln cx 0 dL_law_962 rfl ?_
  refine g_iln cx 3 dL_law_963 rfl ?_
  refine g_ic cx dL_law_964 k_ic1 ?_
  refine g_iadd cx dL_law_965 ?_
  refine g_sld cx hX hbl (Nat.not_le.mpr hbl) (sc_in (c := 1) hj hL (by decide)) dL_law_966 ?_
  refine g_aln cx 0 dL_law_967 rfl ?_
  refine g_iln cx 3 dL_law_968 rfl ?_
  refine g_ic cx dL_law_969 k_ic2 ?_
  refine g_iadd cx dL_law_970 ?_
  refine g_sld cx hX hbl (Nat.not_le.mpr hbl) (sc_in (c := 2) hj hL (by decide)) dL_law_971 ?_
  refine g_aln cx 0 dL_law_972 rfl ?_
  refine g_iln cx 3 dL_law_973 rfl ?_
  refine g_ic cx dL_law_974 k_ic3 ?_
  refine g_iadd cx dL_law_975 ?_
  refine g_sld cx hX hbl (Nat.not_le.mpr hbl) (sc_in (c := 3) hj hL (by decide)) dL_law_976 ?_
  refine g_aln cx 0 dL_law_977 rfl ?_
  refine g_iln cx 3 dL_law_978 rfl ?_
  refine g_ic cx dL_law_979 k_ic4 ?_
  refine g_iadd cx dL_law_980 ?_
  refine g_sld cx hX hbl (Nat.not_le.mpr hbl) (sc_in (c := 4) hj hL (by decide)) dL_law_981 ?_
  refine g_callVGl (gc := [wX12 mo cB cI cJ cZ ms]) (g1 := [wX12 mo cB cI cJ cZ q2.2]) (gs' := [gX11 (u 0) cB cI cJ cZ (u 1 0) (u 2 0) (u 3 0) (u 4 0) (u 5 0) (u 6 0) (u 8 0) (u 9 0) (.ref (u 10 0)) (.ref (u 15 0)) st.1, gX8 (u 1) cB cI cJ cZ st.2.1, gX9 (u 2) cB cI cJ cZ st.2.2.1, gX4 (u 3) cB cI cJ cZ st.2.2.2.1, gX3 (u 4) cB cI cJ cZ st.2.2.2.2.1, gX2 (u 5) cB cI cJ cZ q.2, gX0 (u 6) cB cI cJ cZ (u 7 0) tv st.2.2.2.2.2.2.1, gX4 (u 7) cB cI cJ cZ st.2.2.2.2.2.2.2.1, gX4 (u 8) cB cI cJ cZ st.2.2.2.2.2.2.2.2.1, gX4 (u 9) cB cI cJ cZ st.2.2.2.2.2.2.2.2.2.1, gX7 (u 10) cB cI cJ cZ (u 11 0) (u 12 0) (u 13 0) (u 14 0) st.2.2.2.2.2.2.2.2.2.2.1, gX10 (u 11) cB cI cJ cZ st.2.2.2.2.2.2.2.2.2.2.2.1, gX1 (u 12) cB cI cJ cZ st.2.2.2.2.2.2.2.2.2.2.2.2.1, gX4 (u 13) cB cI cJ cZ st.2.2.2.2.2.2.2.2.2.2.2.2.2.1, gX4 (u 14) cB cI cJ cZ st.2.2.2.2.2.2.2.2.2.2.2.2.2.2.1, gX7 (u 15) cB cI cJ cZ (u 16 0) (u 17 0) (u 18 0) (u 19 0) st.2.2.2.2.2.2.2.2.2.2.2.2.2.2.2.1, gX10 (u 16) cB cI cJ cZ st.2.2.2.2.2.2.2.2.2.2.2.2.2.2.2.2.1, gX1 (u 17) cB cI cJ cZ st.2.2.2.2.2.2.2.2.2.2.2.2.2.2.2.2.2.1, gX4 (u 18) cB cI cJ cZ st.2.2.2.2.2.2.2.2.2.2.2.2.2.2.2.2.2.2.1, gX4 (u 19) cB cI cJ cZ st.2.2.2.2.2.2.2.2.2.2.2.2.2.2.2.2.2.2.2, wX12 mo cB cI cJ cZ q2.2]) cx lk_RL_113 (gm_one (c_X12_burnt l D cB cI cJ cZ mo ms (xs ((nI j) + 1).toNatClampNeg) (xs ((nI j) + 2).toNatClampNeg) (xs ((nI j) + 3).toNatClampNeg) (xs ((nI j) + 4).toNatClampNeg) q2 hq2)) rfl [20] rfl rfl rfl rfl (ci := 10) (q1 := 0) rfl rfl rfl (Nat.le_of_ble_eq_true rfl) ⟨rfl, rfl, Nat.le_of_ble_eq_true rfl, Nat.le_of_ble_eq_true rfl⟩ dL_law_982 ?_
  refine g_pop2 cx dL_law_985 ?_
  refine g_goto (tgt := 1104) cx dL_law_986 rfl ?_
  exact kk u mo (st.1, st.2.1, st.2.2.1, st.2.2.2.1, st.2.2.2.2.1, q.2, st.2.2.2.2.2.2.1, st.2.2.2.2.2.2.2.1, st.2.2.2.2.2.2.2.2.1, st.2.2.2.2.2.2.2.2.2.1, st.2.2.2.2.2.2.2.2.2.2.1, st.2.2.2.2.2.2.2.2.2.2.2.1, st.2.2.2.2.2.2.2.2.2.2.2.2.1, st.2.2.2.2.2.2.2.2.2.2.2.2.2.1, st.2.2.2.2.2.2.2.2.2.2.2.2.2.2.1, st.2.2.2.2.2.2.2.2.2.2.2.2.2.2.2.1, st.2.2.2.2.2.2.2.2.2.2.2.2.2.2.2.2.1, st.2.2.2.2.2.2.2.2.2.2.2.2.2.2.2.2.2.1, st.2.2.2.2.2.2.2.2.2.2.2.2.2.2.2.2.2.2.1, st.2.2.2.2.2.2.2.2.2.2.2.2.2.2.2.2.2.2.2) tv (q2.2) hJ
set_option maxHeartbeats 4000000 in
set_option maxRecDepth 100000 in
theorem lwc_rate {p : Program} {l : Launch} {e : Env} {s : State} {m : MethodId} {below : List Frame} {meth : Method} {c : Code} {D : gG} {cB cI cJ cZ : ClassId} {b L : Nat} {xs : Nat → Int32} {J2 : SX → SM → Prop} (cx : gX p s m #[Value.ref b] meth c cL_law 4 RL D (tyL cB cI cJ cZ) (fun q => s.heap.size ≤ q)) (hX : va_X b L xs s s.heap) (hbl : b < s.heap.size) {j : Nat} (hj : j + 5 ≤ L) (hL : L ≤ 2560) {u : Nat → Nat → Nat} {st : SX} {tv : Value} {mo : Nat → Nat} {ms : SM} (hs : StepOK J2 st ms) (kk : ∀ (u : Nat → Nat → Nat) (mo : Nat → Nat) (st : SX) (tv : Value) (ms : SM), J2 st ms → gW p l e room_1 s m #[Value.ref b] below meth c D (fun q => s.heap.size ≤ q) 4 (lw_Z below #[Value.ref b] s) 88 2324 (wL cB cI cJ cZ u st tv mo ms).flatten [(0, .ref b), (1, .ref (u 0 0)), (2, .ref (mo 0)), (3, .int (nI j))] 1104 []) : gW p l e room_1 s m #[Value.ref b] below meth c D (fun q => s.heap.size ≤ q) 4 (lw_Z below #[Value.ref b] s) 88 2324 (wL cB cI cJ cZ u st tv mo ms).flatten [(0, .ref b), (1, .ref (u 0 0)), (2, .ref (mo 0)), (3, .int (nI j))] 989 [] := by
  obtain ⟨r, r2, st2, ms2, h1, h2, hJ⟩ := hs.2.2.2.2.2.2.2.2.2.2.2.2.2.2.2.2.2.2.2.2.2.2.2.1 (xs ((nI j) + 1).toNatClampNeg) (xs ((nI j) + 2).toNatClampNeg)
  refine omap h2 (fun q2 hq2 he2 => ?_)
  obtain ⟨rfl, rfl⟩ := Prod.mk.inj he2
  clear h2 he2
  refine omap h1 (fun q hq he => ?_)
  obtain ⟨rfl, rfl⟩ := Prod.mk.inj he
  clear h1 he
  refine g_aln cx 1 dL_law_989 rfl ?_
  refine g_aln cx 0 dL_law_990 rfl ?_
  refine g_iln cx 3 dL_law_991 rfl ?_
  refine g_ic cx dL_law_992 k_ic1 ?_
  refine g_iadd cx dL_law_993 ?_
  refine g_sld cx hX hbl (Nat.not_le.mpr hbl) (sc_in (c := 1) hj hL (by decide)) dL_law_994 ?_
  refine g_aln cx 0 dL_law_995 rfl ?_
  refine g_iln cx 3 dL_law_996 rfl ?_
  refine g_ic cx dL_law_997 k_ic2 ?_
  refine g_iadd cx dL_law_998 ?_
  refine g_sld cx hX hbl (Nat.not_le.mpr hbl) (sc_in (c := 2) hj hL (by decide)) dL_law_999 ?_
  refine g_callVGi (gs' := [gX11 (u 0) cB cI cJ cZ (u 1 0) (u 2 0) (u 3 0) (u 4 0) (u 5 0) (u 6 0) (u 8 0) (u 9 0) (.ref (u 10 0)) (.ref (u 15 0)) q.2, gX8 (u 1) cB cI cJ cZ st.2.1, gX9 (u 2) cB cI cJ cZ st.2.2.1, gX4 (u 3) cB cI cJ cZ st.2.2.2.1, gX3 (u 4) cB cI cJ cZ st.2.2.2.2.1, gX2 (u 5) cB cI cJ cZ st.2.2.2.2.2.1, gX0 (u 6) cB cI cJ cZ (u 7 0) tv st.2.2.2.2.2.2.1, gX4 (u 7) cB cI cJ cZ st.2.2.2.2.2.2.2.1, gX4 (u 8) cB cI cJ cZ st.2.2.2.2.2.2.2.2.1, gX4 (u 9) cB cI cJ cZ st.2.2.2.2.2.2.2.2.2.1, gX7 (u 10) cB cI cJ cZ (u 11 0) (u 12 0) (u 13 0) (u 14 0) st.2.2.2.2.2.2.2.2.2.2.1, gX10 (u 11) cB cI cJ cZ st.2.2.2.2.2.2.2.2.2.2.2.1, gX1 (u 12) cB cI cJ cZ st.2.2.2.2.2.2.2.2.2.2.2.2.1, gX4 (u 13) cB cI cJ cZ st.2.2.2.2.2.2.2.2.2.2.2.2.2.1, gX4 (u 14) cB cI cJ cZ st.2.2.2.2.2.2.2.2.2.2.2.2.2.2.1, gX7 (u 15) cB cI cJ cZ (u 16 0) (u 17 0) (u 18 0) (u 19 0) st.2.2.2.2.2.2.2.2.2.2.2.2.2.2.2.1, gX10 (u 16) cB cI cJ cZ st.2.2.2.2.2.2.2.2.2.2.2.2.2.2.2.2.1, gX1 (u 17) cB cI cJ cZ st.2.2.2.2.2.2.2.2.2.2.2.2.2.2.2.2.2.1, gX4 (u 18) cB cI cJ cZ st.2.2.2.2.2.2.2.2.2.2.2.2.2.2.2.2.2.2.1, gX4 (u 19) cB cI cJ cZ st.2.2.2.2.2.2.2.2.2.2.2.2.2.2.2.2.2.2.2, wX12 mo cB cI cJ cZ ms]) cx lk_RL_114 (c_X11_rate l D cB cI cJ cZ (u 0) (u 10) (u 13) (u 11) (u 1) (u 2) (u 3) (u 4) (u 5) (u 6) (u 8) (u 9) (u 15) (u 12) (u 14) (st.1) (st.2.2.2.2.2.2.2.2.2.2.1) (st.2.2.2.2.2.2.2.2.2.2.2.2.2.1) (st.2.2.2.2.2.2.2.2.2.2.2.1) (xs ((nI j) + 1).toNatClampNeg) (xs ((nI j) + 2).toNatClampNeg) q hq) rfl [0, 10, 13, 11] rfl rfl rfl rfl (ci := 9) (q1 := 0) rfl rfl rfl (Nat.le_of_ble_eq_true rfl) ⟨rfl, rfl, Nat.le_of_ble_eq_true rfl, Nat.le_of_ble_eq_true rfl⟩ dL_law_1000 ?_
  refine g_pop cx dL_law_1003 rfl ?_
  refine g_aln cx 2 dL_law_1004 rfl ?_
  refine g_aln cx 0 dL_law_1005 rfl ?_
  refine g_iln cx 3 dL_law_1006 rfl ?_
  refine g_ic cx dL_law_1007 k_ic1 ?_
  refine g_iadd cx dL_law_1008 ?_
  refine g_sld cx hX hbl (Nat.not_le.mpr hbl) (sc_in (c := 1) hj hL (by decide)) dL_law_1009 ?_
  refine g_aln cx 0 dL_law_1010 rfl ?_
  refine g_iln cx 3 dL_law_1011 rfl ?_
  refine g_ic cx dL_law_1012 k_ic2 ?_
  refine g_iadd cx dL_law_1013 ?_
  refine g_sld cx hX hbl (Nat.not_le.mpr hbl) (sc_in (c := 2) hj hL (by decide)) dL_law_1014 ?_
  refine g_callVGi (gc := [wX12 mo cB cI cJ cZ ms]) (g1 := [wX12 mo cB cI cJ cZ q2.2]) (gs' := [gX11 (u 0) cB cI cJ cZ (u 1 0) (u 2 0) (u 3 0) (u 4 0) (u 5 0) (u 6 0) (u 8 0) (u 9 0) (.ref (u 10 0)) (.ref (u 15 0)) q.2, gX8 (u 1) cB cI cJ cZ st.2.1, gX9 (u 2) cB cI cJ cZ st.2.2.1, gX4 (u 3) cB cI cJ cZ st.2.2.2.1, gX3 (u 4) cB cI cJ cZ st.2.2.2.2.1, gX2 (u 5) cB cI cJ cZ st.2.2.2.2.2.1, gX0 (u 6) cB cI cJ cZ (u 7 0) tv st.2.2.2.2.2.2.1, gX4 (u 7) cB cI cJ cZ st.2.2.2.2.2.2.2.1, gX4 (u 8) cB cI cJ cZ st.2.2.2.2.2.2.2.2.1, gX4 (u 9) cB cI cJ cZ st.2.2.2.2.2.2.2.2.2.1, gX7 (u 10) cB cI cJ cZ (u 11 0) (u 12 0) (u 13 0) (u 14 0) st.2.2.2.2.2.2.2.2.2.2.1, gX10 (u 11) cB cI cJ cZ st.2.2.2.2.2.2.2.2.2.2.2.1, gX1 (u 12) cB cI cJ cZ st.2.2.2.2.2.2.2.2.2.2.2.2.1, gX4 (u 13) cB cI cJ cZ st.2.2.2.2.2.2.2.2.2.2.2.2.2.1, gX4 (u 14) cB cI cJ cZ st.2.2.2.2.2.2.2.2.2.2.2.2.2.2.1, gX7 (u 15) cB cI cJ cZ (u 16 0) (u 17 0) (u 18 0) (u 19 0) st.2.2.2.2.2.2.2.2.2.2.2.2.2.2.2.1, gX10 (u 16) cB cI cJ cZ st.2.2.2.2.2.2.2.2.2.2.2.2.2.2.2.2.1, gX1 (u 17) cB cI cJ cZ st.2.2.2.2.2.2.2.2.2.2.2.2.2.2.2.2.2.1, gX4 (u 18) cB cI cJ cZ st.2.2.2.2.2.2.2.2.2.2.2.2.2.2.2.2.2.2.1, gX4 (u 19) cB cI cJ cZ st.2.2.2.2.2.2.2.2.2.2.2.2.2.2.2.2.2.2.2, wX12 mo cB cI cJ cZ q2.2]) cx lk_RL_117 (gm_one (c_X12_rate l D cB cI cJ cZ mo ms (xs ((nI j) + 1).toNatClampNeg) (xs ((nI j) + 2).toNatClampNeg) q2 hq2)) rfl [20] rfl rfl rfl rfl (ci := 10) (q1 := 0) rfl rfl rfl (Nat.le_of_ble_eq_true rfl) ⟨rfl, rfl, Nat.le_of_ble_eq_true rfl, Nat.le_of_ble_eq_true rfl⟩ dL_law_1015 ?_
  refine g_pop cx dL_law_1018 rfl ?_
  refine g_goto (tgt := 1104) cx dL_law_1019 rfl ?_
  exact kk u mo (q.2, st.2.1, st.2.2.1, st.2.2.2.1, st.2.2.2.2.1, st.2.2.2.2.2.1, st.2.2.2.2.2.2.1, st.2.2.2.2.2.2.2.1, st.2.2.2.2.2.2.2.2.1, st.2.2.2.2.2.2.2.2.2.1, st.2.2.2.2.2.2.2.2.2.2.1, st.2.2.2.2.2.2.2.2.2.2.2.1, st.2.2.2.2.2.2.2.2.2.2.2.2.1, st.2.2.2.2.2.2.2.2.2.2.2.2.2.1, st.2.2.2.2.2.2.2.2.2.2.2.2.2.2.1, st.2.2.2.2.2.2.2.2.2.2.2.2.2.2.2.1, st.2.2.2.2.2.2.2.2.2.2.2.2.2.2.2.2.1, st.2.2.2.2.2.2.2.2.2.2.2.2.2.2.2.2.2.1, st.2.2.2.2.2.2.2.2.2.2.2.2.2.2.2.2.2.2.1, st.2.2.2.2.2.2.2.2.2.2.2.2.2.2.2.2.2.2.2) tv (q2.2) hJ
set_option maxHeartbeats 4000000 in
set_option maxRecDepth 100000 in
theorem lwc_keep {p : Program} {l : Launch} {e : Env} {s : State} {m : MethodId} {below : List Frame} {meth : Method} {c : Code} {D : gG} {cB cI cJ cZ : ClassId} {b L : Nat} {xs : Nat → Int32} {J2 : SX → SM → Prop} (cx : gX p s m #[Value.ref b] meth c cL_law 4 RL D (tyL cB cI cJ cZ) (fun q => s.heap.size ≤ q)) (hX : va_X b L xs s s.heap) (hbl : b < s.heap.size) {j : Nat} (hj : j + 5 ≤ L) (hL : L ≤ 2560) {u : Nat → Nat → Nat} {st : SX} {tv : Value} {mo : Nat → Nat} {ms : SM} (hs : StepOK J2 st ms) (kk : ∀ (u : Nat → Nat → Nat) (mo : Nat → Nat) (st : SX) (tv : Value) (ms : SM), J2 st ms → gW p l e room_1 s m #[Value.ref b] below meth c D (fun q => s.heap.size ≤ q) 4 (lw_Z below #[Value.ref b] s) 88 2324 (wL cB cI cJ cZ u st tv mo ms).flatten [(0, .ref b), (1, .ref (u 0 0)), (2, .ref (mo 0)), (3, .int (nI j))] 1104 []) : gW p l e room_1 s m #[Value.ref b] below meth c D (fun q => s.heap.size ≤ q) 4 (lw_Z below #[Value.ref b] s) 88 2324 (wL cB cI cJ cZ u st tv mo ms).flatten [(0, .ref b), (1, .ref (u 0 0)), (2, .ref (mo 0)), (3, .int (nI j))] 1022 [] := by
  obtain ⟨r, r2, st2, ms2, h1, h2, hJ⟩ := hs.2.2.2.2.2.2.2.2.2.2.2.2.2.2.2.2.2.2.2.2.2.2.2.2.1 (xs ((nI j) + 1).toNatClampNeg)
  refine omap h2 (fun q2 hq2 he2 => ?_)
  obtain ⟨rfl, rfl⟩ := Prod.mk.inj he2
  clear h2 he2
  unfold X_keep at h1
  by_cases h0 : (xs ((nI j) + 1).toNatClampNeg) = 0
  · rw [if_pos h0] at h1
    refine omap h1 (fun q hq he => ?_)
    obtain ⟨rfl, rfl⟩ := Prod.mk.inj he
    clear h1 he
    refine g_aln cx 1 dL_law_1022 rfl ?_
    refine g_aln cx 0 dL_law_1023 rfl ?_
    refine g_iln cx 3 dL_law_1024 rfl ?_
    refine g_ic cx dL_law_1025 k_ic1 ?_
    refine g_iadd cx dL_law_1026 ?_
    refine g_sld cx hX hbl (Nat.not_le.mpr hbl) (sc_in (c := 1) hj hL (by decide)) dL_law_1027 ?_
    refine g_callVGi (gs' := [gX11 (u 0) cB cI cJ cZ (u 1 0) (u 2 0) (u 3 0) (u 4 0) (u 5 0) (u 6 0) (u 8 0) (u 9 0) (.ref (u 10 0)) (.ref (u 15 0)) q.2.1, gX8 (u 1) cB cI cJ cZ st.2.1, gX9 (u 2) cB cI cJ cZ st.2.2.1, gX4 (u 3) cB cI cJ cZ st.2.2.2.1, gX3 (u 4) cB cI cJ cZ st.2.2.2.2.1, gX2 (u 5) cB cI cJ cZ st.2.2.2.2.2.1, gX0 (u 6) cB cI cJ cZ (u 7 0) tv st.2.2.2.2.2.2.1, gX4 (u 7) cB cI cJ cZ st.2.2.2.2.2.2.2.1, gX4 (u 8) cB cI cJ cZ q.2.2, gX4 (u 9) cB cI cJ cZ st.2.2.2.2.2.2.2.2.2.1, gX7 (u 10) cB cI cJ cZ (u 11 0) (u 12 0) (u 13 0) (u 14 0) st.2.2.2.2.2.2.2.2.2.2.1, gX10 (u 11) cB cI cJ cZ st.2.2.2.2.2.2.2.2.2.2.2.1, gX1 (u 12) cB cI cJ cZ st.2.2.2.2.2.2.2.2.2.2.2.2.1, gX4 (u 13) cB cI cJ cZ st.2.2.2.2.2.2.2.2.2.2.2.2.2.1, gX4 (u 14) cB cI cJ cZ st.2.2.2.2.2.2.2.2.2.2.2.2.2.2.1, gX7 (u 15) cB cI cJ cZ (u 16 0) (u 17 0) (u 18 0) (u 19 0) st.2.2.2.2.2.2.2.2.2.2.2.2.2.2.2.1, gX10 (u 16) cB cI cJ cZ st.2.2.2.2.2.2.2.2.2.2.2.2.2.2.2.2.1, gX1 (u 17) cB cI cJ cZ st.2.2.2.2.2.2.2.2.2.2.2.2.2.2.2.2.2.1, gX4 (u 18) cB cI cJ cZ st.2.2.2.2.2.2.2.2.2.2.2.2.2.2.2.2.2.2.1, gX4 (u 19) cB cI cJ cZ st.2.2.2.2.2.2.2.2.2.2.2.2.2.2.2.2.2.2.2, wX12 mo cB cI cJ cZ ms]) cx lk_RL_118 (c_X11_keep_0 l D cB cI cJ cZ (u 0) (u 8) (u 10) (u 13) (u 1) (u 2) (u 3) (u 4) (u 5) (u 6) (u 9) (u 15) (u 11) (u 12) (u 14) (st.1) (st.2.2.2.2.2.2.2.2.1) (st.2.2.2.2.2.2.2.2.2.2.1) (st.2.2.2.2.2.2.2.2.2.2.2.2.2.1) (xs ((nI j) + 1).toNatClampNeg) q hq) rfl [0, 8, 10, 13] rfl rfl rfl rfl (ci := 9) (q1 := 0) rfl rfl rfl (Nat.le_of_ble_eq_true rfl) ⟨rfl, rfl, Nat.le_of_ble_eq_true rfl, Nat.le_of_ble_eq_true rfl⟩ dL_law_1028 ?_
    refine g_pop cx dL_law_1031 rfl ?_
    refine g_aln cx 2 dL_law_1032 rfl ?_
    refine g_aln cx 0 dL_law_1033 rfl ?_
    refine g_iln cx 3 dL_law_1034 rfl ?_
    refine g_ic cx dL_law_1035 k_ic1 ?_
    refine g_iadd cx dL_law_1036 ?_
    refine g_sld cx hX hbl (Nat.not_le.mpr hbl) (sc_in (c := 1) hj hL (by decide)) dL_law_1037 ?_
    refine g_callVGi (gc := [wX12 mo cB cI cJ cZ ms]) (g1 := [wX12 mo cB cI cJ cZ q2.2]) (gs' := [gX11 (u 0) cB cI cJ cZ (u 1 0) (u 2 0) (u 3 0) (u 4 0) (u 5 0) (u 6 0) (u 8 0) (u 9 0) (.ref (u 10 0)) (.ref (u 15 0)) q.2.1, gX8 (u 1) cB cI cJ cZ st.2.1, gX9 (u 2) cB cI cJ cZ st.2.2.1, gX4 (u 3) cB cI cJ cZ st.2.2.2.1, gX3 (u 4) cB cI cJ cZ st.2.2.2.2.1, gX2 (u 5) cB cI cJ cZ st.2.2.2.2.2.1, gX0 (u 6) cB cI cJ cZ (u 7 0) tv st.2.2.2.2.2.2.1, gX4 (u 7) cB cI cJ cZ st.2.2.2.2.2.2.2.1, gX4 (u 8) cB cI cJ cZ q.2.2, gX4 (u 9) cB cI cJ cZ st.2.2.2.2.2.2.2.2.2.1, gX7 (u 10) cB cI cJ cZ (u 11 0) (u 12 0) (u 13 0) (u 14 0) st.2.2.2.2.2.2.2.2.2.2.1, gX10 (u 11) cB cI cJ cZ st.2.2.2.2.2.2.2.2.2.2.2.1, gX1 (u 12) cB cI cJ cZ st.2.2.2.2.2.2.2.2.2.2.2.2.1, gX4 (u 13) cB cI cJ cZ st.2.2.2.2.2.2.2.2.2.2.2.2.2.1, gX4 (u 14) cB cI cJ cZ st.2.2.2.2.2.2.2.2.2.2.2.2.2.2.1, gX7 (u 15) cB cI cJ cZ (u 16 0) (u 17 0) (u 18 0) (u 19 0) st.2.2.2.2.2.2.2.2.2.2.2.2.2.2.2.1, gX10 (u 16) cB cI cJ cZ st.2.2.2.2.2.2.2.2.2.2.2.2.2.2.2.2.1, gX1 (u 17) cB cI cJ cZ st.2.2.2.2.2.2.2.2.2.2.2.2.2.2.2.2.2.1, gX4 (u 18) cB cI cJ cZ st.2.2.2.2.2.2.2.2.2.2.2.2.2.2.2.2.2.2.1, gX4 (u 19) cB cI cJ cZ st.2.2.2.2.2.2.2.2.2.2.2.2.2.2.2.2.2.2.2, wX12 mo cB cI cJ cZ q2.2]) cx lk_RL_121 (gm_one (c_X12_keep l D cB cI cJ cZ mo ms (xs ((nI j) + 1).toNatClampNeg) q2 hq2)) rfl [20] rfl rfl rfl rfl (ci := 10) (q1 := 0) rfl rfl rfl (Nat.le_of_ble_eq_true rfl) ⟨rfl, rfl, Nat.le_of_ble_eq_true rfl, Nat.le_of_ble_eq_true rfl⟩ dL_law_1038 ?_
    refine g_pop cx dL_law_1041 rfl ?_
    refine g_goto (tgt := 1104) cx dL_law_1042 rfl ?_
    exact kk u mo (q.2.1, st.2.1, st.2.2.1, st.2.2.2.1, st.2.2.2.2.1, st.2.2.2.2.2.1, st.2.2.2.2.2.2.1, st.2.2.2.2.2.2.2.1, q.2.2, st.2.2.2.2.2.2.2.2.2.1, st.2.2.2.2.2.2.2.2.2.2.1, st.2.2.2.2.2.2.2.2.2.2.2.1, st.2.2.2.2.2.2.2.2.2.2.2.2.1, st.2.2.2.2.2.2.2.2.2.2.2.2.2.1, st.2.2.2.2.2.2.2.2.2.2.2.2.2.2.1, st.2.2.2.2.2.2.2.2.2.2.2.2.2.2.2.1, st.2.2.2.2.2.2.2.2.2.2.2.2.2.2.2.2.1, st.2.2.2.2.2.2.2.2.2.2.2.2.2.2.2.2.2.1, st.2.2.2.2.2.2.2.2.2.2.2.2.2.2.2.2.2.2.1, st.2.2.2.2.2.2.2.2.2.2.2.2.2.2.2.2.2.2.2) tv (q2.2) hJ
  · rw [if_neg h0] at h1
    refine omap h1 (fun q hq he => ?_)
    obtain ⟨rfl, rfl⟩ := Prod.mk.inj he
    clear h1 he
    refine g_aln cx 1 dL_law_1022 rfl ?_
    refine g_aln cx 0 dL_law_1023 rfl ?_
    refine g_iln cx 3 dL_law_1024 rfl ?_
    refine g_ic cx dL_law_1025 k_ic1 ?_
    refine g_iadd cx dL_law_1026 ?_
    refine g_sld cx hX hbl (Nat.not_le.mpr hbl) (sc_in (c := 1) hj hL (by decide)) dL_law_1027 ?_
    refine g_callVGi (gs' := [gX11 (u 0) cB cI cJ cZ (u 1 0) (u 2 0) (u 3 0) (u 4 0) (u 5 0) (u 6 0) (u 8 0) (u 9 0) (.ref (u 10 0)) (.ref (u 15 0)) q.2.1, gX8 (u 1) cB cI cJ cZ st.2.1, gX9 (u 2) cB cI cJ cZ st.2.2.1, gX4 (u 3) cB cI cJ cZ st.2.2.2.1, gX3 (u 4) cB cI cJ cZ st.2.2.2.2.1, gX2 (u 5) cB cI cJ cZ st.2.2.2.2.2.1, gX0 (u 6) cB cI cJ cZ (u 7 0) tv st.2.2.2.2.2.2.1, gX4 (u 7) cB cI cJ cZ st.2.2.2.2.2.2.2.1, gX4 (u 8) cB cI cJ cZ st.2.2.2.2.2.2.2.2.1, gX4 (u 9) cB cI cJ cZ q.2.2, gX7 (u 10) cB cI cJ cZ (u 11 0) (u 12 0) (u 13 0) (u 14 0) st.2.2.2.2.2.2.2.2.2.2.1, gX10 (u 11) cB cI cJ cZ st.2.2.2.2.2.2.2.2.2.2.2.1, gX1 (u 12) cB cI cJ cZ st.2.2.2.2.2.2.2.2.2.2.2.2.1, gX4 (u 13) cB cI cJ cZ st.2.2.2.2.2.2.2.2.2.2.2.2.2.1, gX4 (u 14) cB cI cJ cZ st.2.2.2.2.2.2.2.2.2.2.2.2.2.2.1, gX7 (u 15) cB cI cJ cZ (u 16 0) (u 17 0) (u 18 0) (u 19 0) st.2.2.2.2.2.2.2.2.2.2.2.2.2.2.2.1, gX10 (u 16) cB cI cJ cZ st.2.2.2.2.2.2.2.2.2.2.2.2.2.2.2.2.1, gX1 (u 17) cB cI cJ cZ st.2.2.2.2.2.2.2.2.2.2.2.2.2.2.2.2.2.1, gX4 (u 18) cB cI cJ cZ st.2.2.2.2.2.2.2.2.2.2.2.2.2.2.2.2.2.2.1, gX4 (u 19) cB cI cJ cZ st.2.2.2.2.2.2.2.2.2.2.2.2.2.2.2.2.2.2.2, wX12 mo cB cI cJ cZ ms]) cx lk_RL_118 (c_X11_keep_1 l D cB cI cJ cZ (u 0) (u 9) (u 10) (u 13) (u 1) (u 2) (u 3) (u 4) (u 5) (u 6) (u 8) (u 15) (u 11) (u 12) (u 14) (st.1) (st.2.2.2.2.2.2.2.2.2.1) (st.2.2.2.2.2.2.2.2.2.2.1) (st.2.2.2.2.2.2.2.2.2.2.2.2.2.1) (xs ((nI j) + 1).toNatClampNeg) q hq) rfl [0, 9, 10, 13] rfl rfl rfl rfl (ci := 9) (q1 := 0) rfl rfl rfl (Nat.le_of_ble_eq_true rfl) ⟨rfl, rfl, Nat.le_of_ble_eq_true rfl, Nat.le_of_ble_eq_true rfl⟩ dL_law_1028 ?_
    refine g_pop cx dL_law_1031 rfl ?_
    refine g_aln cx 2 dL_law_1032 rfl ?_
    refine g_aln cx 0 dL_law_1033 rfl ?_
    refine g_iln cx 3 dL_law_1034 rfl ?_
    refine g_ic cx dL_law_1035 k_ic1 ?_
    refine g_iadd cx dL_law_1036 ?_
    refine g_sld cx hX hbl (Nat.not_le.mpr hbl) (sc_in (c := 1) hj hL (by decide)) dL_law_1037 ?_
    refine g_callVGi (gc := [wX12 mo cB cI cJ cZ ms]) (g1 := [wX12 mo cB cI cJ cZ q2.2]) (gs' := [gX11 (u 0) cB cI cJ cZ (u 1 0) (u 2 0) (u 3 0) (u 4 0) (u 5 0) (u 6 0) (u 8 0) (u 9 0) (.ref (u 10 0)) (.ref (u 15 0)) q.2.1, gX8 (u 1) cB cI cJ cZ st.2.1, gX9 (u 2) cB cI cJ cZ st.2.2.1, gX4 (u 3) cB cI cJ cZ st.2.2.2.1, gX3 (u 4) cB cI cJ cZ st.2.2.2.2.1, gX2 (u 5) cB cI cJ cZ st.2.2.2.2.2.1, gX0 (u 6) cB cI cJ cZ (u 7 0) tv st.2.2.2.2.2.2.1, gX4 (u 7) cB cI cJ cZ st.2.2.2.2.2.2.2.1, gX4 (u 8) cB cI cJ cZ st.2.2.2.2.2.2.2.2.1, gX4 (u 9) cB cI cJ cZ q.2.2, gX7 (u 10) cB cI cJ cZ (u 11 0) (u 12 0) (u 13 0) (u 14 0) st.2.2.2.2.2.2.2.2.2.2.1, gX10 (u 11) cB cI cJ cZ st.2.2.2.2.2.2.2.2.2.2.2.1, gX1 (u 12) cB cI cJ cZ st.2.2.2.2.2.2.2.2.2.2.2.2.1, gX4 (u 13) cB cI cJ cZ st.2.2.2.2.2.2.2.2.2.2.2.2.2.1, gX4 (u 14) cB cI cJ cZ st.2.2.2.2.2.2.2.2.2.2.2.2.2.2.1, gX7 (u 15) cB cI cJ cZ (u 16 0) (u 17 0) (u 18 0) (u 19 0) st.2.2.2.2.2.2.2.2.2.2.2.2.2.2.2.1, gX10 (u 16) cB cI cJ cZ st.2.2.2.2.2.2.2.2.2.2.2.2.2.2.2.2.1, gX1 (u 17) cB cI cJ cZ st.2.2.2.2.2.2.2.2.2.2.2.2.2.2.2.2.2.1, gX4 (u 18) cB cI cJ cZ st.2.2.2.2.2.2.2.2.2.2.2.2.2.2.2.2.2.2.1, gX4 (u 19) cB cI cJ cZ st.2.2.2.2.2.2.2.2.2.2.2.2.2.2.2.2.2.2.2, wX12 mo cB cI cJ cZ q2.2]) cx lk_RL_121 (gm_one (c_X12_keep l D cB cI cJ cZ mo ms (xs ((nI j) + 1).toNatClampNeg) q2 hq2)) rfl [20] rfl rfl rfl rfl (ci := 10) (q1 := 0) rfl rfl rfl (Nat.le_of_ble_eq_true rfl) ⟨rfl, rfl, Nat.le_of_ble_eq_true rfl, Nat.le_of_ble_eq_true rfl⟩ dL_law_1038 ?_
    refine g_pop cx dL_law_1041 rfl ?_
    refine g_goto (tgt := 1104) cx dL_law_1042 rfl ?_
    exact kk u mo (q.2.1, st.2.1, st.2.2.1, st.2.2.2.1, st.2.2.2.2.1, st.2.2.2.2.2.1, st.2.2.2.2.2.2.1, st.2.2.2.2.2.2.2.1, st.2.2.2.2.2.2.2.2.1, q.2.2, st.2.2.2.2.2.2.2.2.2.2.1, st.2.2.2.2.2.2.2.2.2.2.2.1, st.2.2.2.2.2.2.2.2.2.2.2.2.1, st.2.2.2.2.2.2.2.2.2.2.2.2.2.1, st.2.2.2.2.2.2.2.2.2.2.2.2.2.2.1, st.2.2.2.2.2.2.2.2.2.2.2.2.2.2.2.1, st.2.2.2.2.2.2.2.2.2.2.2.2.2.2.2.2.1, st.2.2.2.2.2.2.2.2.2.2.2.2.2.2.2.2.2.1, st.2.2.2.2.2.2.2.2.2.2.2.2.2.2.2.2.2.2.1, st.2.2.2.2.2.2.2.2.2.2.2.2.2.2.2.2.2.2.2) tv (q2.2) hJ
set_option maxHeartbeats 4000000 in
set_option maxRecDepth 100000 in
theorem lwc_back {p : Program} {l : Launch} {e : Env} {s : State} {m : MethodId} {below : List Frame} {meth : Method} {c : Code} {D : gG} {cB cI cJ cZ : ClassId} {b L : Nat} {xs : Nat → Int32} {J2 : SX → SM → Prop} (cx : gX p s m #[Value.ref b] meth c cL_law 4 RL D (tyL cB cI cJ cZ) (fun q => s.heap.size ≤ q)) (hX : va_X b L xs s s.heap) (hbl : b < s.heap.size) {j : Nat} (hj : j + 5 ≤ L) (hL : L ≤ 2560) {u : Nat → Nat → Nat} {st : SX} {tv : Value} {mo : Nat → Nat} {ms : SM} (hs : StepOK J2 st ms) (kk : ∀ (u : Nat → Nat → Nat) (mo : Nat → Nat) (st : SX) (tv : Value) (ms : SM), J2 st ms → gW p l e room_1 s m #[Value.ref b] below meth c D (fun q => s.heap.size ≤ q) 4 (lw_Z below #[Value.ref b] s) 88 2324 (wL cB cI cJ cZ u st tv mo ms).flatten [(0, .ref b), (1, .ref (u 0 0)), (2, .ref (mo 0)), (3, .int (nI j))] 1104 []) : gW p l e room_1 s m #[Value.ref b] below meth c D (fun q => s.heap.size ≤ q) 4 (lw_Z below #[Value.ref b] s) 88 2324 (wL cB cI cJ cZ u st tv mo ms).flatten [(0, .ref b), (1, .ref (u 0 0)), (2, .ref (mo 0)), (3, .int (nI j))] 1045 [] := by
  obtain ⟨r, r2, st2, ms2, h1, h2, hJ⟩ := hs.2.2.2.2.2.2.2.2.2.2.2.2.2.2.2.2.2.2.2.2.2.2.2.2.2.1 (xs ((nI j) + 1).toNatClampNeg)
  refine omap h2 (fun q2 hq2 he2 => ?_)
  obtain ⟨rfl, rfl⟩ := Prod.mk.inj he2
  clear h2 he2
  unfold X_back at h1
  by_cases h0 : (xs ((nI j) + 1).toNatClampNeg) = 0
  · rw [if_pos h0] at h1
    refine omap h1 (fun q hq he => ?_)
    obtain ⟨rfl, rfl⟩ := Prod.mk.inj he
    clear h1 he
    refine g_aln cx 1 dL_law_1045 rfl ?_
    refine g_aln cx 0 dL_law_1046 rfl ?_
    refine g_iln cx 3 dL_law_1047 rfl ?_
    refine g_ic cx dL_law_1048 k_ic1 ?_
    refine g_iadd cx dL_law_1049 ?_
    refine g_sld cx hX hbl (Nat.not_le.mpr hbl) (sc_in (c := 1) hj hL (by decide)) dL_law_1050 ?_
    refine g_callVGi (gs' := [gX11 (u 0) cB cI cJ cZ (u 1 0) (u 2 0) (u 3 0) (u 4 0) (u 5 0) (u 6 0) (u 8 0) (u 9 0) (.ref (u 10 0)) (.ref (u 15 0)) st.1, gX8 (u 1) cB cI cJ cZ st.2.1, gX9 (u 2) cB cI cJ cZ st.2.2.1, gX4 (u 3) cB cI cJ cZ st.2.2.2.1, gX3 (u 4) cB cI cJ cZ st.2.2.2.2.1, gX2 (u 5) cB cI cJ cZ st.2.2.2.2.2.1, gX0 (u 6) cB cI cJ cZ (u 7 0) tv st.2.2.2.2.2.2.1, gX4 (u 7) cB cI cJ cZ st.2.2.2.2.2.2.2.1, gX4 (u 8) cB cI cJ cZ st.2.2.2.2.2.2.2.2.1, gX4 (u 9) cB cI cJ cZ st.2.2.2.2.2.2.2.2.2.1, gX7 (u 10) cB cI cJ cZ (u 11 0) (u 12 0) (u 13 0) (u 14 0) st.2.2.2.2.2.2.2.2.2.2.1, gX10 (u 11) cB cI cJ cZ st.2.2.2.2.2.2.2.2.2.2.2.1, gX1 (u 12) cB cI cJ cZ st.2.2.2.2.2.2.2.2.2.2.2.2.1, gX4 (u 13) cB cI cJ cZ q.2, gX4 (u 14) cB cI cJ cZ st.2.2.2.2.2.2.2.2.2.2.2.2.2.2.1, gX7 (u 15) cB cI cJ cZ (u 16 0) (u 17 0) (u 18 0) (u 19 0) st.2.2.2.2.2.2.2.2.2.2.2.2.2.2.2.1, gX10 (u 16) cB cI cJ cZ st.2.2.2.2.2.2.2.2.2.2.2.2.2.2.2.2.1, gX1 (u 17) cB cI cJ cZ st.2.2.2.2.2.2.2.2.2.2.2.2.2.2.2.2.2.1, gX4 (u 18) cB cI cJ cZ st.2.2.2.2.2.2.2.2.2.2.2.2.2.2.2.2.2.2.1, gX4 (u 19) cB cI cJ cZ st.2.2.2.2.2.2.2.2.2.2.2.2.2.2.2.2.2.2.2, wX12 mo cB cI cJ cZ ms]) cx lk_RL_122 (c_X11_back_0 l D cB cI cJ cZ (u 0) (u 8) (u 10) (u 13) (u 1) (u 2) (u 3) (u 4) (u 5) (u 6) (u 9) (u 15) (u 11) (u 12) (u 14) (st.1) (st.2.2.2.2.2.2.2.2.1) (st.2.2.2.2.2.2.2.2.2.2.1) (st.2.2.2.2.2.2.2.2.2.2.2.2.2.1) (xs ((nI j) + 1).toNatClampNeg) q hq) rfl [0, 8, 10, 13] rfl rfl rfl rfl (ci := 9) (q1 := 0) rfl rfl rfl (Nat.le_of_ble_eq_true rfl) ⟨rfl, rfl, Nat.le_of_ble_eq_true rfl, Nat.le_of_ble_eq_true rfl⟩ dL_law_1051 ?_
    refine g_pop cx dL_law_1054 rfl ?_
    refine g_aln cx 2 dL_law_1055 rfl ?_
    refine g_aln cx 0 dL_law_1056 rfl ?_
    refine g_iln cx 3 dL_law_1057 rfl ?_
    refine g_ic cx dL_law_1058 k_ic1 ?_
    refine g_iadd cx dL_law_1059 ?_
    refine g_sld cx hX hbl (Nat.not_le.mpr hbl) (sc_in (c := 1) hj hL (by decide)) dL_law_1060 ?_
    refine g_callVGi (gc := [wX12 mo cB cI cJ cZ ms]) (g1 := [wX12 mo cB cI cJ cZ q2.2]) (gs' := [gX11 (u 0) cB cI cJ cZ (u 1 0) (u 2 0) (u 3 0) (u 4 0) (u 5 0) (u 6 0) (u 8 0) (u 9 0) (.ref (u 10 0)) (.ref (u 15 0)) st.1, gX8 (u 1) cB cI cJ cZ st.2.1, gX9 (u 2) cB cI cJ cZ st.2.2.1, gX4 (u 3) cB cI cJ cZ st.2.2.2.1, gX3 (u 4) cB cI cJ cZ st.2.2.2.2.1, gX2 (u 5) cB cI cJ cZ st.2.2.2.2.2.1, gX0 (u 6) cB cI cJ cZ (u 7 0) tv st.2.2.2.2.2.2.1, gX4 (u 7) cB cI cJ cZ st.2.2.2.2.2.2.2.1, gX4 (u 8) cB cI cJ cZ st.2.2.2.2.2.2.2.2.1, gX4 (u 9) cB cI cJ cZ st.2.2.2.2.2.2.2.2.2.1, gX7 (u 10) cB cI cJ cZ (u 11 0) (u 12 0) (u 13 0) (u 14 0) st.2.2.2.2.2.2.2.2.2.2.1, gX10 (u 11) cB cI cJ cZ st.2.2.2.2.2.2.2.2.2.2.2.1, gX1 (u 12) cB cI cJ cZ st.2.2.2.2.2.2.2.2.2.2.2.2.1, gX4 (u 13) cB cI cJ cZ q.2, gX4 (u 14) cB cI cJ cZ st.2.2.2.2.2.2.2.2.2.2.2.2.2.2.1, gX7 (u 15) cB cI cJ cZ (u 16 0) (u 17 0) (u 18 0) (u 19 0) st.2.2.2.2.2.2.2.2.2.2.2.2.2.2.2.1, gX10 (u 16) cB cI cJ cZ st.2.2.2.2.2.2.2.2.2.2.2.2.2.2.2.2.1, gX1 (u 17) cB cI cJ cZ st.2.2.2.2.2.2.2.2.2.2.2.2.2.2.2.2.2.1, gX4 (u 18) cB cI cJ cZ st.2.2.2.2.2.2.2.2.2.2.2.2.2.2.2.2.2.2.1, gX4 (u 19) cB cI cJ cZ st.2.2.2.2.2.2.2.2.2.2.2.2.2.2.2.2.2.2.2, wX12 mo cB cI cJ cZ q2.2]) cx lk_RL_125 (gm_one (c_X12_back l D cB cI cJ cZ mo ms (xs ((nI j) + 1).toNatClampNeg) q2 hq2)) rfl [20] rfl rfl rfl rfl (ci := 10) (q1 := 0) rfl rfl rfl (Nat.le_of_ble_eq_true rfl) ⟨rfl, rfl, Nat.le_of_ble_eq_true rfl, Nat.le_of_ble_eq_true rfl⟩ dL_law_1061 ?_
    refine g_pop cx dL_law_1064 rfl ?_
    refine g_goto (tgt := 1104) cx dL_law_1065 rfl ?_
    exact kk u mo (st.1, st.2.1, st.2.2.1, st.2.2.2.1, st.2.2.2.2.1, st.2.2.2.2.2.1, st.2.2.2.2.2.2.1, st.2.2.2.2.2.2.2.1, st.2.2.2.2.2.2.2.2.1, st.2.2.2.2.2.2.2.2.2.1, st.2.2.2.2.2.2.2.2.2.2.1, st.2.2.2.2.2.2.2.2.2.2.2.1, st.2.2.2.2.2.2.2.2.2.2.2.2.1, q.2, st.2.2.2.2.2.2.2.2.2.2.2.2.2.2.1, st.2.2.2.2.2.2.2.2.2.2.2.2.2.2.2.1, st.2.2.2.2.2.2.2.2.2.2.2.2.2.2.2.2.1, st.2.2.2.2.2.2.2.2.2.2.2.2.2.2.2.2.2.1, st.2.2.2.2.2.2.2.2.2.2.2.2.2.2.2.2.2.2.1, st.2.2.2.2.2.2.2.2.2.2.2.2.2.2.2.2.2.2.2) tv (q2.2) hJ
  · rw [if_neg h0] at h1
    refine omap h1 (fun q hq he => ?_)
    obtain ⟨rfl, rfl⟩ := Prod.mk.inj he
    clear h1 he
    refine g_aln cx 1 dL_law_1045 rfl ?_
    refine g_aln cx 0 dL_law_1046 rfl ?_
    refine g_iln cx 3 dL_law_1047 rfl ?_
    refine g_ic cx dL_law_1048 k_ic1 ?_
    refine g_iadd cx dL_law_1049 ?_
    refine g_sld cx hX hbl (Nat.not_le.mpr hbl) (sc_in (c := 1) hj hL (by decide)) dL_law_1050 ?_
    refine g_callVGi (gs' := [gX11 (u 0) cB cI cJ cZ (u 1 0) (u 2 0) (u 3 0) (u 4 0) (u 5 0) (u 6 0) (u 8 0) (u 9 0) (.ref (u 10 0)) (.ref (u 15 0)) st.1, gX8 (u 1) cB cI cJ cZ st.2.1, gX9 (u 2) cB cI cJ cZ st.2.2.1, gX4 (u 3) cB cI cJ cZ st.2.2.2.1, gX3 (u 4) cB cI cJ cZ st.2.2.2.2.1, gX2 (u 5) cB cI cJ cZ st.2.2.2.2.2.1, gX0 (u 6) cB cI cJ cZ (u 7 0) tv st.2.2.2.2.2.2.1, gX4 (u 7) cB cI cJ cZ st.2.2.2.2.2.2.2.1, gX4 (u 8) cB cI cJ cZ st.2.2.2.2.2.2.2.2.1, gX4 (u 9) cB cI cJ cZ st.2.2.2.2.2.2.2.2.2.1, gX7 (u 10) cB cI cJ cZ (u 11 0) (u 12 0) (u 13 0) (u 14 0) st.2.2.2.2.2.2.2.2.2.2.1, gX10 (u 11) cB cI cJ cZ st.2.2.2.2.2.2.2.2.2.2.2.1, gX1 (u 12) cB cI cJ cZ st.2.2.2.2.2.2.2.2.2.2.2.2.1, gX4 (u 13) cB cI cJ cZ q.2, gX4 (u 14) cB cI cJ cZ st.2.2.2.2.2.2.2.2.2.2.2.2.2.2.1, gX7 (u 15) cB cI cJ cZ (u 16 0) (u 17 0) (u 18 0) (u 19 0) st.2.2.2.2.2.2.2.2.2.2.2.2.2.2.2.1, gX10 (u 16) cB cI cJ cZ st.2.2.2.2.2.2.2.2.2.2.2.2.2.2.2.2.1, gX1 (u 17) cB cI cJ cZ st.2.2.2.2.2.2.2.2.2.2.2.2.2.2.2.2.2.1, gX4 (u 18) cB cI cJ cZ st.2.2.2.2.2.2.2.2.2.2.2.2.2.2.2.2.2.2.1, gX4 (u 19) cB cI cJ cZ st.2.2.2.2.2.2.2.2.2.2.2.2.2.2.2.2.2.2.2, wX12 mo cB cI cJ cZ ms]) cx lk_RL_122 (c_X11_back_1 l D cB cI cJ cZ (u 0) (u 9) (u 10) (u 13) (u 1) (u 2) (u 3) (u 4) (u 5) (u 6) (u 8) (u 15) (u 11) (u 12) (u 14) (st.1) (st.2.2.2.2.2.2.2.2.2.1) (st.2.2.2.2.2.2.2.2.2.2.1) (st.2.2.2.2.2.2.2.2.2.2.2.2.2.1) (xs ((nI j) + 1).toNatClampNeg) q hq) rfl [0, 9, 10, 13] rfl rfl rfl rfl (ci := 9) (q1 := 0) rfl rfl rfl (Nat.le_of_ble_eq_true rfl) ⟨rfl, rfl, Nat.le_of_ble_eq_true rfl, Nat.le_of_ble_eq_true rfl⟩ dL_law_1051 ?_
    refine g_pop cx dL_law_1054 rfl ?_
    refine g_aln cx 2 dL_law_1055 rfl ?_
    refine g_aln cx 0 dL_law_1056 rfl ?_
    refine g_iln cx 3 dL_law_1057 rfl ?_
    refine g_ic cx dL_law_1058 k_ic1 ?_
    refine g_iadd cx dL_law_1059 ?_
    refine g_sld cx hX hbl (Nat.not_le.mpr hbl) (sc_in (c := 1) hj hL (by decide)) dL_law_1060 ?_
    refine g_callVGi (gc := [wX12 mo cB cI cJ cZ ms]) (g1 := [wX12 mo cB cI cJ cZ q2.2]) (gs' := [gX11 (u 0) cB cI cJ cZ (u 1 0) (u 2 0) (u 3 0) (u 4 0) (u 5 0) (u 6 0) (u 8 0) (u 9 0) (.ref (u 10 0)) (.ref (u 15 0)) st.1, gX8 (u 1) cB cI cJ cZ st.2.1, gX9 (u 2) cB cI cJ cZ st.2.2.1, gX4 (u 3) cB cI cJ cZ st.2.2.2.1, gX3 (u 4) cB cI cJ cZ st.2.2.2.2.1, gX2 (u 5) cB cI cJ cZ st.2.2.2.2.2.1, gX0 (u 6) cB cI cJ cZ (u 7 0) tv st.2.2.2.2.2.2.1, gX4 (u 7) cB cI cJ cZ st.2.2.2.2.2.2.2.1, gX4 (u 8) cB cI cJ cZ st.2.2.2.2.2.2.2.2.1, gX4 (u 9) cB cI cJ cZ st.2.2.2.2.2.2.2.2.2.1, gX7 (u 10) cB cI cJ cZ (u 11 0) (u 12 0) (u 13 0) (u 14 0) st.2.2.2.2.2.2.2.2.2.2.1, gX10 (u 11) cB cI cJ cZ st.2.2.2.2.2.2.2.2.2.2.2.1, gX1 (u 12) cB cI cJ cZ st.2.2.2.2.2.2.2.2.2.2.2.2.1, gX4 (u 13) cB cI cJ cZ q.2, gX4 (u 14) cB cI cJ cZ st.2.2.2.2.2.2.2.2.2.2.2.2.2.2.1, gX7 (u 15) cB cI cJ cZ (u 16 0) (u 17 0) (u 18 0) (u 19 0) st.2.2.2.2.2.2.2.2.2.2.2.2.2.2.2.1, gX10 (u 16) cB cI cJ cZ st.2.2.2.2.2.2.2.2.2.2.2.2.2.2.2.2.1, gX1 (u 17) cB cI cJ cZ st.2.2.2.2.2.2.2.2.2.2.2.2.2.2.2.2.2.1, gX4 (u 18) cB cI cJ cZ st.2.2.2.2.2.2.2.2.2.2.2.2.2.2.2.2.2.2.1, gX4 (u 19) cB cI cJ cZ st.2.2.2.2.2.2.2.2.2.2.2.2.2.2.2.2.2.2.2, wX12 mo cB cI cJ cZ q2.2]) cx lk_RL_125 (gm_one (c_X12_back l D cB cI cJ cZ mo ms (xs ((nI j) + 1).toNatClampNeg) q2 hq2)) rfl [20] rfl rfl rfl rfl (ci := 10) (q1 := 0) rfl rfl rfl (Nat.le_of_ble_eq_true rfl) ⟨rfl, rfl, Nat.le_of_ble_eq_true rfl, Nat.le_of_ble_eq_true rfl⟩ dL_law_1061 ?_
    refine g_pop cx dL_law_1064 rfl ?_
    refine g_goto (tgt := 1104) cx dL_law_1065 rfl ?_
    exact kk u mo (st.1, st.2.1, st.2.2.1, st.2.2.2.1, st.2.2.2.2.1, st.2.2.2.2.2.1, st.2.2.2.2.2.2.1, st.2.2.2.2.2.2.2.1, st.2.2.2.2.2.2.2.2.1, st.2.2.2.2.2.2.2.2.2.1, st.2.2.2.2.2.2.2.2.2.2.1, st.2.2.2.2.2.2.2.2.2.2.2.1, st.2.2.2.2.2.2.2.2.2.2.2.2.1, q.2, st.2.2.2.2.2.2.2.2.2.2.2.2.2.2.1, st.2.2.2.2.2.2.2.2.2.2.2.2.2.2.2.1, st.2.2.2.2.2.2.2.2.2.2.2.2.2.2.2.2.1, st.2.2.2.2.2.2.2.2.2.2.2.2.2.2.2.2.2.1, st.2.2.2.2.2.2.2.2.2.2.2.2.2.2.2.2.2.2.1, st.2.2.2.2.2.2.2.2.2.2.2.2.2.2.2.2.2.2.2) tv (q2.2) hJ
set_option maxHeartbeats 4000000 in
set_option maxRecDepth 100000 in
theorem lwc_count {p : Program} {l : Launch} {e : Env} {s : State} {m : MethodId} {below : List Frame} {meth : Method} {c : Code} {D : gG} {cB cI cJ cZ : ClassId} {b L : Nat} {xs : Nat → Int32} {J2 : SX → SM → Prop} (cx : gX p s m #[Value.ref b] meth c cL_law 4 RL D (tyL cB cI cJ cZ) (fun q => s.heap.size ≤ q)) (hX : va_X b L xs s s.heap) (hbl : b < s.heap.size) {j : Nat} (hj : j + 5 ≤ L) (hL : L ≤ 2560) {u : Nat → Nat → Nat} {st : SX} {tv : Value} {mo : Nat → Nat} {ms : SM} (hs : StepOK J2 st ms) (kk : ∀ (u : Nat → Nat → Nat) (mo : Nat → Nat) (st : SX) (tv : Value) (ms : SM), J2 st ms → gW p l e room_1 s m #[Value.ref b] below meth c D (fun q => s.heap.size ≤ q) 4 (lw_Z below #[Value.ref b] s) 88 2324 (wL cB cI cJ cZ u st tv mo ms).flatten [(0, .ref b), (1, .ref (u 0 0)), (2, .ref (mo 0)), (3, .int (nI j))] 1104 []) : gW p l e room_1 s m #[Value.ref b] below meth c D (fun q => s.heap.size ≤ q) 4 (lw_Z below #[Value.ref b] s) 88 2324 (wL cB cI cJ cZ u st tv mo ms).flatten [(0, .ref b), (1, .ref (u 0 0)), (2, .ref (mo 0)), (3, .int (nI j))] 1068 [] := by
  obtain ⟨r, r2, st2, ms2, h1, h2, hJ⟩ := hs.2.2.2.2.2.2.2.2.2.2.2.2.2.2.2.2.2.2.2.2.2.2.2.2.2.2.1 (xs ((nI j) + 1).toNatClampNeg)
  refine omap h2 (fun q2 hq2 he2 => ?_)
  obtain ⟨rfl, rfl⟩ := Prod.mk.inj he2
  clear h2 he2
  refine omap h1 (fun q hq he => ?_)
  obtain ⟨rfl, rfl⟩ := Prod.mk.inj he
  clear h1 he
  refine g_aln cx 1 dL_law_1068 rfl ?_
  refine g_aln cx 0 dL_law_1069 rfl ?_
  refine g_iln cx 3 dL_law_1070 rfl ?_
  refine g_ic cx dL_law_1071 k_ic1 ?_
  refine g_iadd cx dL_law_1072 ?_
  refine g_sld cx hX hbl (Nat.not_le.mpr hbl) (sc_in (c := 1) hj hL (by decide)) dL_law_1073 ?_
  refine g_callVGiR cx lk_RL_126 (c_X11_count l D cB cI cJ cZ (u 0) (u 1) (u 10) (u 12) (u 13) (u 14) (u 11) (u 2) (u 3) (u 4) (u 5) (u 6) (u 8) (u 9) (u 15) (st.1) (st.2.1) (st.2.2.2.2.2.2.2.2.2.2.1) (st.2.2.2.2.2.2.2.2.2.2.2.2.1) (st.2.2.2.2.2.2.2.2.2.2.2.2.2.1) (st.2.2.2.2.2.2.2.2.2.2.2.2.2.2.1) (st.2.2.2.2.2.2.2.2.2.2.2.1) (xs ((nI j) + 1).toNatClampNeg) q hq) rfl [0, 1, 10, 12, 13, 14, 11] rfl rfl (ci := 9) (q1 := 0) rfl rfl rfl (Nat.le_of_ble_eq_true rfl) ⟨rfl, rfl, Nat.le_of_ble_eq_true rfl, Nat.le_of_ble_eq_true rfl⟩ dL_law_1074 ?_
  refine g_pop cx dL_law_1077 rfl ?_
  refine g_aln cx 2 dL_law_1078 rfl ?_
  refine g_aln cx 0 dL_law_1079 rfl ?_
  refine g_iln cx 3 dL_law_1080 rfl ?_
  refine g_ic cx dL_law_1081 k_ic1 ?_
  refine g_iadd cx dL_law_1082 ?_
  refine g_sld cx hX hbl (Nat.not_le.mpr hbl) (sc_in (c := 1) hj hL (by decide)) dL_law_1083 ?_
  refine g_callVGi (gc := [wX12 mo cB cI cJ cZ ms]) (g1 := [wX12 mo cB cI cJ cZ q2.2]) (gs' := [gX11 (u 0) cB cI cJ cZ (u 1 0) (u 2 0) (u 3 0) (u 4 0) (u 5 0) (u 6 0) (u 8 0) (u 9 0) (.ref (u 10 0)) (.ref (u 15 0)) st.1, gX8 (u 1) cB cI cJ cZ st.2.1, gX9 (u 2) cB cI cJ cZ st.2.2.1, gX4 (u 3) cB cI cJ cZ st.2.2.2.1, gX3 (u 4) cB cI cJ cZ st.2.2.2.2.1, gX2 (u 5) cB cI cJ cZ st.2.2.2.2.2.1, gX0 (u 6) cB cI cJ cZ (u 7 0) tv st.2.2.2.2.2.2.1, gX4 (u 7) cB cI cJ cZ st.2.2.2.2.2.2.2.1, gX4 (u 8) cB cI cJ cZ st.2.2.2.2.2.2.2.2.1, gX4 (u 9) cB cI cJ cZ st.2.2.2.2.2.2.2.2.2.1, gX7 (u 10) cB cI cJ cZ (u 11 0) (u 12 0) (u 13 0) (u 14 0) st.2.2.2.2.2.2.2.2.2.2.1, gX10 (u 11) cB cI cJ cZ st.2.2.2.2.2.2.2.2.2.2.2.1, gX1 (u 12) cB cI cJ cZ st.2.2.2.2.2.2.2.2.2.2.2.2.1, gX4 (u 13) cB cI cJ cZ st.2.2.2.2.2.2.2.2.2.2.2.2.2.1, gX4 (u 14) cB cI cJ cZ st.2.2.2.2.2.2.2.2.2.2.2.2.2.2.1, gX7 (u 15) cB cI cJ cZ (u 16 0) (u 17 0) (u 18 0) (u 19 0) st.2.2.2.2.2.2.2.2.2.2.2.2.2.2.2.1, gX10 (u 16) cB cI cJ cZ st.2.2.2.2.2.2.2.2.2.2.2.2.2.2.2.2.1, gX1 (u 17) cB cI cJ cZ st.2.2.2.2.2.2.2.2.2.2.2.2.2.2.2.2.2.1, gX4 (u 18) cB cI cJ cZ st.2.2.2.2.2.2.2.2.2.2.2.2.2.2.2.2.2.2.1, gX4 (u 19) cB cI cJ cZ st.2.2.2.2.2.2.2.2.2.2.2.2.2.2.2.2.2.2.2, wX12 mo cB cI cJ cZ q2.2]) cx lk_RL_129 (gm_one (c_X12_count l D cB cI cJ cZ mo ms (xs ((nI j) + 1).toNatClampNeg) q2 hq2)) rfl [20] rfl rfl rfl rfl (ci := 10) (q1 := 0) rfl rfl rfl (Nat.le_of_ble_eq_true rfl) ⟨rfl, rfl, Nat.le_of_ble_eq_true rfl, Nat.le_of_ble_eq_true rfl⟩ dL_law_1084 ?_
  refine g_pop cx dL_law_1087 rfl ?_
  refine g_goto (tgt := 1104) cx dL_law_1088 rfl ?_
  exact kk u mo (st.1, st.2.1, st.2.2.1, st.2.2.2.1, st.2.2.2.2.1, st.2.2.2.2.2.1, st.2.2.2.2.2.2.1, st.2.2.2.2.2.2.2.1, st.2.2.2.2.2.2.2.2.1, st.2.2.2.2.2.2.2.2.2.1, st.2.2.2.2.2.2.2.2.2.2.1, st.2.2.2.2.2.2.2.2.2.2.2.1, st.2.2.2.2.2.2.2.2.2.2.2.2.1, st.2.2.2.2.2.2.2.2.2.2.2.2.2.1, st.2.2.2.2.2.2.2.2.2.2.2.2.2.2.1, st.2.2.2.2.2.2.2.2.2.2.2.2.2.2.2.1, st.2.2.2.2.2.2.2.2.2.2.2.2.2.2.2.2.1, st.2.2.2.2.2.2.2.2.2.2.2.2.2.2.2.2.2.1, st.2.2.2.2.2.2.2.2.2.2.2.2.2.2.2.2.2.2.1, st.2.2.2.2.2.2.2.2.2.2.2.2.2.2.2.2.2.2.2) tv (q2.2) hJ
set_option maxHeartbeats 4000000 in
set_option maxRecDepth 100000 in
theorem lwc_trace {p : Program} {l : Launch} {e : Env} {s : State} {m : MethodId} {below : List Frame} {meth : Method} {c : Code} {D : gG} {cB cI cJ cZ : ClassId} {b L : Nat} {xs : Nat → Int32} {J2 : SX → SM → Prop} (cx : gX p s m #[Value.ref b] meth c cL_law 4 RL D (tyL cB cI cJ cZ) (fun q => s.heap.size ≤ q)) (hX : va_X b L xs s s.heap) (hbl : b < s.heap.size) {j : Nat} (hj : j + 5 ≤ L) (hL : L ≤ 2560) {u : Nat → Nat → Nat} {st : SX} {tv : Value} {mo : Nat → Nat} {ms : SM} (hs : StepOK J2 st ms) (kk : ∀ (u : Nat → Nat → Nat) (mo : Nat → Nat) (st : SX) (tv : Value) (ms : SM), J2 st ms → gW p l e room_1 s m #[Value.ref b] below meth c D (fun q => s.heap.size ≤ q) 4 (lw_Z below #[Value.ref b] s) 88 2324 (wL cB cI cJ cZ u st tv mo ms).flatten [(0, .ref b), (1, .ref (u 0 0)), (2, .ref (mo 0)), (3, .int (nI j))] 1104 []) : gW p l e room_1 s m #[Value.ref b] below meth c D (fun q => s.heap.size ≤ q) 4 (lw_Z below #[Value.ref b] s) 88 2324 (wL cB cI cJ cZ u st tv mo ms).flatten [(0, .ref b), (1, .ref (u 0 0)), (2, .ref (mo 0)), (3, .int (nI j))] 1091 [] := by
  obtain ⟨r, r2, st2, ms2, h1, h2, hJ⟩ := hs.2.2.2.2.2.2.2.2.2.2.2.2.2.2.2.2.2.2.2.2.2.2.2.2.2.2.2 ()
  refine omap h2 (fun q2 hq2 he2 => ?_)
  obtain ⟨rfl, rfl⟩ := Prod.mk.inj he2
  clear h2 he2
  refine omap h1 (fun q hq he => ?_)
  obtain ⟨rfl, rfl⟩ := Prod.mk.inj he
  clear h1 he
  refine g_aln cx 1 dL_law_1091 rfl ?_
  refine g_callVGlR cx lk_RL_130 (c_X11_trace l D cB cI cJ cZ (u 0) (u 1) (u 2) (u 3) (u 4) (u 5) (u 6) (u 8) (u 9) (u 10) (u 15) (st.1) q hq) rfl [0] rfl rfl (ci := 9) (q1 := 0) rfl rfl rfl (Nat.le_of_ble_eq_true rfl) ⟨rfl, rfl, Nat.le_of_ble_eq_true rfl, Nat.le_of_ble_eq_true rfl⟩ dL_law_1092 ?_
  refine g_pop2 cx dL_law_1095 ?_
  refine g_aln cx 2 dL_law_1096 rfl ?_
  refine g_callVGl (gc := [wX12 mo cB cI cJ cZ ms]) (g1 := [wX12 mo cB cI cJ cZ q2.2]) (gs' := [gX11 (u 0) cB cI cJ cZ (u 1 0) (u 2 0) (u 3 0) (u 4 0) (u 5 0) (u 6 0) (u 8 0) (u 9 0) (.ref (u 10 0)) (.ref (u 15 0)) st.1, gX8 (u 1) cB cI cJ cZ st.2.1, gX9 (u 2) cB cI cJ cZ st.2.2.1, gX4 (u 3) cB cI cJ cZ st.2.2.2.1, gX3 (u 4) cB cI cJ cZ st.2.2.2.2.1, gX2 (u 5) cB cI cJ cZ st.2.2.2.2.2.1, gX0 (u 6) cB cI cJ cZ (u 7 0) tv st.2.2.2.2.2.2.1, gX4 (u 7) cB cI cJ cZ st.2.2.2.2.2.2.2.1, gX4 (u 8) cB cI cJ cZ st.2.2.2.2.2.2.2.2.1, gX4 (u 9) cB cI cJ cZ st.2.2.2.2.2.2.2.2.2.1, gX7 (u 10) cB cI cJ cZ (u 11 0) (u 12 0) (u 13 0) (u 14 0) st.2.2.2.2.2.2.2.2.2.2.1, gX10 (u 11) cB cI cJ cZ st.2.2.2.2.2.2.2.2.2.2.2.1, gX1 (u 12) cB cI cJ cZ st.2.2.2.2.2.2.2.2.2.2.2.2.1, gX4 (u 13) cB cI cJ cZ st.2.2.2.2.2.2.2.2.2.2.2.2.2.1, gX4 (u 14) cB cI cJ cZ st.2.2.2.2.2.2.2.2.2.2.2.2.2.2.1, gX7 (u 15) cB cI cJ cZ (u 16 0) (u 17 0) (u 18 0) (u 19 0) st.2.2.2.2.2.2.2.2.2.2.2.2.2.2.2.1, gX10 (u 16) cB cI cJ cZ st.2.2.2.2.2.2.2.2.2.2.2.2.2.2.2.2.1, gX1 (u 17) cB cI cJ cZ st.2.2.2.2.2.2.2.2.2.2.2.2.2.2.2.2.2.1, gX4 (u 18) cB cI cJ cZ st.2.2.2.2.2.2.2.2.2.2.2.2.2.2.2.2.2.2.1, gX4 (u 19) cB cI cJ cZ st.2.2.2.2.2.2.2.2.2.2.2.2.2.2.2.2.2.2.2, wX12 mo cB cI cJ cZ q2.2]) cx lk_RL_134 (gm_one (c_X12_trace l D cB cI cJ cZ mo ms q2 hq2)) rfl [20] rfl rfl rfl rfl (ci := 10) (q1 := 0) rfl rfl rfl (Nat.le_of_ble_eq_true rfl) ⟨rfl, rfl, Nat.le_of_ble_eq_true rfl, Nat.le_of_ble_eq_true rfl⟩ dL_law_1097 ?_
  refine g_pop2 cx dL_law_1100 ?_
  refine g_goto (tgt := 1104) cx dL_law_1101 rfl ?_
  exact kk u mo (st.1, st.2.1, st.2.2.1, st.2.2.2.1, st.2.2.2.2.1, st.2.2.2.2.2.1, st.2.2.2.2.2.2.1, st.2.2.2.2.2.2.2.1, st.2.2.2.2.2.2.2.2.1, st.2.2.2.2.2.2.2.2.2.1, st.2.2.2.2.2.2.2.2.2.2.1, st.2.2.2.2.2.2.2.2.2.2.2.1, st.2.2.2.2.2.2.2.2.2.2.2.2.1, st.2.2.2.2.2.2.2.2.2.2.2.2.2.1, st.2.2.2.2.2.2.2.2.2.2.2.2.2.2.1, st.2.2.2.2.2.2.2.2.2.2.2.2.2.2.2.1, st.2.2.2.2.2.2.2.2.2.2.2.2.2.2.2.2.1, st.2.2.2.2.2.2.2.2.2.2.2.2.2.2.2.2.2.1, st.2.2.2.2.2.2.2.2.2.2.2.2.2.2.2.2.2.2.1, st.2.2.2.2.2.2.2.2.2.2.2.2.2.2.2.2.2.2.2) tv (q2.2) hJ
