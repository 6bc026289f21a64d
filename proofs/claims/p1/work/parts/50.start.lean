theorem k_bp31 : (Int8.ofInt (31)).toInt32 = 31 := by decide
theorem k_inc5 (x : Int32) : x + Int32.ofInt (5) = x + 5 := by rfl
theorem q1_21 : Cond.classLink RL 7 RX11 ∈ TT := tq1 21 rfl rfl
theorem q1_22 : Cond.instantiable RX11 12 ∈ TT := tq1 22 rfl rfl
theorem q1_23 : Cond.methodLink RL 9 yX11_init ∈ TT := tq1 23 rfl rfl
theorem q1_24 : Cond.instanceMethod yX11_init ∈ TT := tq1 24 rfl rfl
theorem q1_25 : Cond.code yX11_init cX11_init 1 none ∈ TT := tq1 25 rfl rfl
theorem q4_217 : Cond.classLink RL 10 RX12 ∈ TT := tq4 217 rfl rfl
theorem q4_218 : Cond.instantiable RX12 38 ∈ TT := tq4 218 rfl rfl
theorem q4_219 : Cond.methodLink RL 12 yX12_init ∈ TT := tq4 219 rfl rfl
theorem q4_220 : Cond.instanceMethod yX12_init ∈ TT := tq4 220 rfl rfl
theorem q4_221 : Cond.code yX12_init cX12_init 1 none ∈ TT := tq4 221 rfl rfl
theorem ck_RL_9 : clk RL 9 yX11_init cX11_init 1 0 := ⟨⟨q1_23, q1_24, q1_1⟩, q1_25, rfl, by decide, by decide, by decide +kernel⟩
theorem ck_RL_12 : clk RL 12 yX12_init cX12_init 1 0 := ⟨⟨q4_219, q4_220, q1_12⟩, q4_221, rfl, by decide, by decide, by decide +kernel⟩
theorem lp_lt {L j : Nat} (hL : L ≤ 2560) (hj : j < 10000) : (nI L - 5 < nI j) ↔ L < j + 5 := by
  rw [Int32.lt_iff_toInt_lt, show (5 : Int32) = nI 5 from rfl, pk_sub_toInt (by omega) (by omega), nI_toInt (by omega)]
  omega
theorem arr_known {s : State} {args : Array Value} {ty : FieldType} (h : (Cond.arrayClass ty).before args s = true) : ∃ cA : ClassId, ArrOfT s cA ty ∧ s.vm.findClass ("[" ++ ty.toString) = some cA := by
  obtain ⟨cA, kA, comp, h1, h2, h3⟩ := Cond.arrayClass_spec h
  exact ⟨cA, fun n z => ⟨fun k h => (by cases h), kA, h2, comp, h3⟩, h1⟩
set_option maxHeartbeats 4000000 in
set_option maxRecDepth 100000 in
theorem law_loop {p : Program} {l : Launch} {e : Env} {s : State} {m : MethodId} {below : List Frame} {meth : Method} {c : Code} {D : gG} {cB cI cJ cZ : ClassId} {b L : Nat} {xs : Nat → Int32} (cx : gX p s m #[Value.ref b] meth c cL_law 4 RL D (tyL cB cI cJ cZ) (fun q => s.heap.size ≤ q)) (hX : va_X b L xs s s.heap) (hbl : b < s.heap.size) (hr : meth.sig.returnType = ret) (hL : L ≤ 5) (J : Nat → SX → SM → Prop) (hs : ∀ (j : Nat) (st : SX) (ms : SM), j + 5 ≤ L → J j st ms → StepOK (J (j + 5)) st ms) (hd : ∀ (j : Nat) (st : SX) (ms : SM), j + 5 ≤ L → J j st ms → J (j + 5) st ms) : ∀ (n j : Nat) (u : Nat → Nat → Nat) (st : SX) (tv : Value) (mo : Nat → Nat) (ms : SM), J j st ms → j ≤ L + 5 → L + 5 - j < n → gW p l e room_1 s m #[Value.ref b] below meth c D (fun q => s.heap.size ≤ q) 4 (lw_Z below #[Value.ref b] s) 88 2324 (wL cB cI cJ cZ u st tv mo ms).flatten [(0, .ref b), (1, .ref (u 0 0)), (2, .ref (mo 0)), (3, .int (nI j))] 18 [] := by
  intro n
  induction n with
  | zero => intro j u st tv mo ms hJ hj hn; omega
  | succ n ih =>
    intro j u st tv mo ms hJ hjL hn
    refine g_iln cx 3 dL_law_18 rfl ?_
    refine g_aln cx 0 dL_law_19 rfl ?_
    refine g_slen cx hX hbl (Nat.not_le.mpr hbl) dL_law_20 ?_
    refine g_ic cx dL_law_21 k_ic5 ?_
    refine g_isub cx dL_law_22 ?_
    refine g_cgt (tgt := 1112) cx dL_law_23 rfl (fun hx => ?_) (fun hx => ?_)
    · refine g_ic cx dL_law_1112 k_ic1 ?_
      exact fun hc H locs ls hP hD hS h => va_forget hS.2.2 (W.widen (Nat.le_of_ble_eq_true rfl) (Nat.le_of_ble_eq_true rfl) (lw_ret cx.1 cx.2.1 hr cx.2.2.2.2.2.2.2.1 dL_law_1113))
    · have hj : j + 5 ≤ L := by
        rw [lp_lt (by omega) (by omega)] at hx; omega
      have kk : ∀ (u : Nat → Nat → Nat) (mo : Nat → Nat) (st : SX) (tv : Value) (ms : SM), J (j + 5) st ms → gW p l e room_1 s m #[Value.ref b] below meth c D (fun q => s.heap.size ≤ q) 4 (lw_Z below #[Value.ref b] s) 88 2324 (wL cB cI cJ cZ u st tv mo ms).flatten [(0, .ref b), (1, .ref (u 0 0)), (2, .ref (mo 0)), (3, .int (nI j))] 1106 [] := by
        intro u mo st tv ms hJ
        refine g_inc0 (L' := [(3, .int (nI (j + 5))), (0, .ref b), (1, .ref (u 0 0)), (2, .ref (mo 0))]) cx 3 dL_law_1106 rfl (by rw [k_inc5, show (5 : Int32) = nI 5 from rfl, nI_add]) (Nat.le_of_ble_eq_true rfl) rfl ?_
        refine g_goto (tgt := 18) cx dL_law_1109 rfl ?_
        refine g_sub [1, 2, 3, 0] rfl ?_
        exact ih (j + 5) u st tv mo ms hJ (by omega) (by omega)
      have hst := hs j st ms hj hJ
      refine g_aln cx 0 dL_law_26 rfl ?_
      refine g_iln cx 3 dL_law_27 rfl ?_
      refine g_sld cx hX hbl (Nat.not_le.mpr hbl) (vp_in_nI (by omega) (by omega)) dL_law_28 ?_
      refine g_bp cx dL_law_29 k_bp31 ?_
      refine g_iand cx dL_law_31 ?_
      by_cases hx0 : xs (nI j).toNatClampNeg &&& 31 = 0
      · exact g_swIn (tgt := 160) cx 0 hx0 (by decide) dL_law_32 (by decide) rfl rfl (lwc_type cx hX hbl hj (by omega) hst kk)
      by_cases hx1 : xs (nI j).toNatClampNeg &&& 31 = 1
      · exact g_swIn (tgt := 223) cx 1 hx1 (by decide) dL_law_32 (by decide) rfl rfl (lwc_clear cx hX hbl hj (by omega) hst kk)
      by_cases hx2 : xs (nI j).toNatClampNeg &&& 31 = 2
      · exact g_swIn (tgt := 236) cx 2 hx2 (by decide) dL_law_32 (by decide) rfl rfl (lwc_read cx hX hbl hj (by omega) hst kk)
      by_cases hx3 : xs (nI j).toNatClampNeg &&& 31 = 3
      · exact g_swIn (tgt := 249) cx 3 hx3 (by decide) dL_law_32 (by decide) rfl rfl (lwc_word cx hX hbl hj (by omega) hst kk)
      by_cases hx4 : xs (nI j).toNatClampNeg &&& 31 = 4
      · exact g_swIn (tgt := 282) cx 4 hx4 (by decide) dL_law_32 (by decide) rfl rfl (lwc_form cx hX hbl hj (by omega) hst kk)
      by_cases hx5 : xs (nI j).toNatClampNeg &&& 31 = 5
      · exact g_swIn (tgt := 315) cx 5 hx5 (by decide) dL_law_32 (by decide) rfl rfl (lwc_metre cx hX hbl hj (by omega) hst kk)
      by_cases hx6 : xs (nI j).toNatClampNeg &&& 31 = 6
      · exact g_swIn (tgt := 348) cx 6 hx6 (by decide) dL_law_32 (by decide) rfl rfl (lwc_line cx hX hbl hj (by omega) hst kk)
      by_cases hx7 : xs (nI j).toNatClampNeg &&& 31 = 7
      · exact g_swIn (tgt := 381) cx 7 hx7 (by decide) dL_law_32 (by decide) rfl rfl (lwc_stock cx hX hbl hj (by omega) hst kk)
      by_cases hx8 : xs (nI j).toNatClampNeg &&& 31 = 8
      · exact g_swIn (tgt := 414) cx 8 hx8 (by decide) dL_law_32 (by decide) rfl rfl (lwc_put cx hX hbl hj (by omega) hst kk)
      by_cases hx9 : xs (nI j).toNatClampNeg &&& 31 = 9
      · exact g_swIn (tgt := 467) cx 9 hx9 (by decide) dL_law_32 (by decide) rfl rfl (lwc_change cx hX hbl hj (by omega) hst kk)
      by_cases hx10 : xs (nI j).toNatClampNeg &&& 31 = 10
      · exact g_swIn (tgt := 500) cx 10 hx10 (by decide) dL_law_32 (by decide) rfl rfl (lwc_take cx hX hbl hj (by omega) hst kk)
      by_cases hx11 : xs (nI j).toNatClampNeg &&& 31 = 11
      · exact g_swIn (tgt := 523) cx 11 hx11 (by decide) dL_law_32 (by decide) rfl rfl (lwc_judged cx hX hbl hj (by omega) hst kk)
      by_cases hx12 : xs (nI j).toNatClampNeg &&& 31 = 12
      · exact g_swIn (tgt := 576) cx 12 hx12 (by decide) dL_law_32 (by decide) rfl rfl (lwc_law cx hX hbl hj (by omega) hst kk)
      by_cases hx13 : xs (nI j).toNatClampNeg &&& 31 = 13
      · exact g_swIn (tgt := 609) cx 13 hx13 (by decide) dL_law_32 (by decide) rfl rfl (lwc_empty cx hX hbl hj (by omega) hst kk)
      by_cases hx14 : xs (nI j).toNatClampNeg &&& 31 = 14
      · exact g_swIn (tgt := 642) cx 14 hx14 (by decide) dL_law_32 (by decide) rfl rfl (lwc_bound cx hX hbl hj (by omega) hst kk)
      by_cases hx15 : xs (nI j).toNatClampNeg &&& 31 = 15
      · exact g_swIn (tgt := 675) cx 15 hx15 (by decide) dL_law_32 (by decide) rfl rfl (lwc_struck cx hX hbl hj (by omega) hst kk)
      by_cases hx16 : xs (nI j).toNatClampNeg &&& 31 = 16
      · exact g_swIn (tgt := 718) cx 16 hx16 (by decide) dL_law_32 (by decide) rfl rfl (lwc_key cx hX hbl hj (by omega) hst kk)
      by_cases hx17 : xs (nI j).toNatClampNeg &&& 31 = 17
      · exact g_swIn (tgt := 751) cx 17 hx17 (by decide) dL_law_32 (by decide) rfl rfl (lwc_mended cx hX hbl hj (by omega) hst kk)
      by_cases hx18 : xs (nI j).toNatClampNeg &&& 31 = 18
      · exact g_swIn (tgt := 794) cx 18 hx18 (by decide) dL_law_32 (by decide) rfl rfl (lwc_shortest cx hX hbl hj (by omega) hst kk)
      by_cases hx19 : xs (nI j).toNatClampNeg &&& 31 = 19
      · exact g_swIn (tgt := 847) cx 19 hx19 (by decide) dL_law_32 (by decide) rfl rfl (lwc_both cx hX hbl hj (by omega) hst kk)
      by_cases hx20 : xs (nI j).toNatClampNeg &&& 31 = 20
      · exact g_swIn (tgt := 870) cx 20 hx20 (by decide) dL_law_32 (by decide) rfl rfl (lwc_parting cx hX hbl hj (by omega) hst kk)
      by_cases hx21 : xs (nI j).toNatClampNeg &&& 31 = 21
      · exact g_swIn (tgt := 893) cx 21 hx21 (by decide) dL_law_32 (by decide) rfl rfl (lwc_forged cx hX hbl hj (by omega) hst kk)
      by_cases hx22 : xs (nI j).toNatClampNeg &&& 31 = 22
      · exact g_swIn (tgt := 936) cx 22 hx22 (by decide) dL_law_32 (by decide) rfl rfl (lwc_burnt cx hX hbl hj (by omega) hst kk)
      by_cases hx23 : xs (nI j).toNatClampNeg &&& 31 = 23
      · exact g_swIn (tgt := 990) cx 23 hx23 (by decide) dL_law_32 (by decide) rfl rfl (lwc_rate cx hX hbl hj (by omega) hst kk)
      by_cases hx24 : xs (nI j).toNatClampNeg &&& 31 = 24
      · exact g_swIn (tgt := 1023) cx 24 hx24 (by decide) dL_law_32 (by decide) rfl rfl (lwc_keep cx hX hbl hj (by omega) hst kk)
      by_cases hx25 : xs (nI j).toNatClampNeg &&& 31 = 25
      · exact g_swIn (tgt := 1046) cx 25 hx25 (by decide) dL_law_32 (by decide) rfl rfl (lwc_back cx hX hbl hj (by omega) hst kk)
      by_cases hx26 : xs (nI j).toNatClampNeg &&& 31 = 26
      · exact g_swIn (tgt := 1069) cx 26 hx26 (by decide) dL_law_32 (by decide) rfl rfl (lwc_count cx hX hbl hj (by omega) hst kk)
      by_cases hx27 : xs (nI j).toNatClampNeg &&& 31 = 27
      · exact g_swIn (tgt := 1092) cx 27 hx27 (by decide) dL_law_32 (by decide) rfl rfl (lwc_trace cx hX hbl hj (by omega) hst kk)
      exact g_swOut (tgt := 1106) cx 27 (sw_27 hx0 hx1 hx2 hx3 hx4 hx5 hx6 hx7 hx8 hx9 hx10 hx11 hx12 hx13 hx14 hx15 hx16 hx17 hx18 hx19 hx20 hx21 hx22 hx23 hx24 hx25 hx26 hx27) dL_law_32 rfl (kk u mo st tv ms (hd j st ms hj hJ))
def SX0 : SX := (i11, i8, i9, (i4 8), i3, i2, i0, (i4 6), (i4 8), (i4 8), i7, i10, i1, (i4 8), (i4 6), i7, i10, i1, (i4 8), (i4 6))
theorem l_le0 {x : Int32} (h : ¬ x < 0) : (0 : Int32) ≤ x := by
  rw [Int32.lt_iff_toInt_lt] at h
  rw [Int32.le_iff_toInt_le]
  omega
theorem l_lt1 {x : Int32} (h : ¬ x < 0) : (-1 : Int32) < x := by
  rw [Int32.lt_iff_toInt_lt] at h ⊢
  have h1 : ((-1 : Int32)).toInt = -1 := by decide
  have h2 : ((0 : Int32)).toInt = 0 := by decide
  omega
theorem l_in (x : Int32) : F_X12_in x 0 (-1) = some 0 := by
  unfold F_X12_in
  by_cases h : x < 0
  · rw [if_pos h]
  · rw [if_neg h, if_pos (l_lt1 h)]
theorem l_has1 (x : Int32) : F_X1_has i1 x = some 0 := by
  unfold F_X1_has
  by_cases h : x < 0
  · rw [if_pos h]
  · rw [if_neg h, if_pos (show s1_size i1 ≤ x from l_le0 h)]
theorem l_has10 (x : Int32) : F_X10_has i10 x = some 0 := by
  unfold F_X10_has
  by_cases h : x < 0
  · rw [if_pos h]
  · rw [if_neg h, if_pos (show s10_size i10 ≤ x from l_le0 h)]
theorem l_has4 (m x : Int32) : F_X4_has (i4 m) x = some 0 := by
  unfold F_X4_has
  by_cases h : x < 0
  · rw [if_pos h]
  · rw [if_neg h, if_pos (show s4_size (i4 m) ≤ x from l_le0 h)]
theorem l_nv (s : S11) (t : S7) (f d : Int32) : F_X11_isNoView s t i1 f d = some 1 := by simp [F_X11_isNoView, l_has1]
theorem l_form (f d : Int32) : F_X12_isForm (mIs iM 0 0) f d = some 0 := by
  have h : mI (mIs iM 0 0) 14 - 1 = -1 := by decide
  simp [F_X12_isForm, h, l_in]
theorem l_word (w : Int32) : F_X12_isWord (mIs iM 0 0) w = some 0 := by
  have h : mI (mIs iM 0 0) 13 - 1 = -1 := by decide
  simp [F_X12_isWord, h, l_in, zb]
theorem l_s0 : aget 25 (mA (mIs iM 0 0) 21) 0 = some 0 := by decide
theorem l_line (i : Int32) : F_X12_isLine (mIs iM 0 0) i = some 0 := by
  have h : (0 : Int32) - 1 = -1 := by decide
  simp [F_X12_isLine, l_s0, h, l_in, zb]
theorem p1_of {α : Type} {J2 : SX → SM → Prop} (h2 : ∀ st ms, J2 st ms) {o1 : Option (α × SX)} {o2 : Option (α × SM)} {r : α} (e1 : o1.map Prod.fst = some r) (e2 : o2.map Prod.fst = some r) : ∃ (r r2 : α) (st2 : SX) (ms2 : SM), o1 = some (r, st2) ∧ o2 = some (r2, ms2) ∧ r = r2 ∧ J2 st2 ms2 := by
  cases o1 with
  | none => simp at e1
  | some a => cases o2 with
    | none => simp at e2
    | some b => exact ⟨a.1, b.1, a.2, b.2, rfl, rfl, (Option.some.inj e1).trans (Option.some.inj e2).symm, h2 _ _⟩
theorem p1x_judged (a1 : Int32) (a2 : Int32) (a3 : Int32) (a4 : Int32) : (X_judged SX0 a1 a2 a3 a4).map Prod.fst = some (-1) := by
  simp [X_judged, SX0, F_X11_judged, l_nv]
theorem p1m_judged (a1 : Int32) (a2 : Int32) (a3 : Int32) (a4 : Int32) : (M_judged iM a1 a2 a3 a4).map Prod.fst = some (-1) := by
  simp [M_judged, F_X12_judged, nm, l_form]
theorem p1x_law (a1 : Int32) (a2 : Int32) : (X_law SX0 a1 a2).map Prod.fst = some (-1) := by
  simp [X_law, SX0, F_X11_law, l_nv]
theorem p1m_law (a1 : Int32) (a2 : Int32) : (M_law iM a1 a2).map Prod.fst = some (-1) := by
  simp [M_law, F_X12_law, nm, l_form]
theorem p1x_empty (a1 : Int32) (a2 : Int32) : (X_empty SX0 a1 a2).map Prod.fst = some (-1) := by
  simp [X_empty, SX0, F_X11_empty, l_nv]
theorem p1m_empty (a1 : Int32) (a2 : Int32) : (M_empty iM a1 a2).map Prod.fst = some (-1) := by
  simp [M_empty, F_X12_empty, nm, l_form]
theorem p1x_bound (a1 : Int32) (a2 : Int32) : (X_bound SX0 a1 a2).map Prod.fst = some (-1) := by
  simp [X_bound, SX0, F_X11_bound, l_nv]
theorem p1m_bound (a1 : Int32) (a2 : Int32) : (M_bound iM a1 a2).map Prod.fst = some (-1) := by
  simp [M_bound, F_X12_bound, nm, l_form]
theorem p1x_struck (a1 : Int32) (a2 : Int32) (a3 : Int32) : (X_struck SX0 a1 a2 a3).map Prod.fst = some (-1) := by
  simp [X_struck, SX0, F_X11_struck, l_nv]
theorem p1m_struck (a1 : Int32) (a2 : Int32) (a3 : Int32) : (M_struck iM a1 a2 a3).map Prod.fst = some (-1) := by
  simp [M_struck, F_X12_struck, nm, l_form]
theorem p1x_key (a1 : Int32) (a2 : Int32) : (X_key SX0 a1 a2).map Prod.fst = some (-1) := by
  simp [X_key, SX0, F_X11_key, l_nv]
theorem p1m_key (a1 : Int32) (a2 : Int32) : (M_key iM a1 a2).map Prod.fst = some (-1) := by
  simp [M_key, F_X12_key, nm, l_form]
theorem p1x_mended (a1 : Int32) (a2 : Int32) (a3 : Int32) : (X_mended SX0 a1 a2 a3).map Prod.fst = some (-1) := by
  simp [X_mended, SX0, F_X11_mended, l_nv]
theorem p1m_mended (a1 : Int32) (a2 : Int32) (a3 : Int32) : (M_mended iM a1 a2 a3).map Prod.fst = some (-1) := by
  simp [M_mended, F_X12_mended, nm, l_form]
theorem p1x_forged (a1 : Int32) (a2 : Int32) (a3 : Int32) : (X_forged SX0 a1 a2 a3).map Prod.fst = some (-1) := by
  simp [X_forged, SX0, F_X11_forged, l_nv]
theorem p1m_forged (a1 : Int32) (a2 : Int32) (a3 : Int32) : (M_forged iM a1 a2 a3).map Prod.fst = some (-1) := by
  simp [M_forged, F_X12_forged, nm, l_form]
theorem p1x_burnt (a1 : Int32) (a2 : Int32) (a3 : Int32) (a4 : Int32) : (X_burnt SX0 a1 a2 a3 a4).map Prod.fst = some (-1) := by
  simp [X_burnt, SX0, F_X11_burnt, F_X11_burnt_b18, l_nv]
theorem p1m_burnt (a1 : Int32) (a2 : Int32) (a3 : Int32) (a4 : Int32) : (M_burnt iM a1 a2 a3 a4).map Prod.fst = some (-1) := by
  simp [M_burnt, F_X12_burnt, F_X12_burnt_b29, nm, l_form]
theorem p1x_shortest (a1 : Int32) (a2 : Int32) (a3 : Int32) (a4 : Int32) : (X_shortest SX0 a1 a2 a3 a4).map Prod.fst = some (-1) := by
  simp [X_shortest, SX0, F_X11_shortest_0, l_nv]
theorem p1m_shortest (a1 : Int32) (a2 : Int32) (a3 : Int32) (a4 : Int32) : (M_shortest iM a1 a2 a3 a4).map Prod.fst = some (-1) := by
  simp [M_shortest, F_X12_shortest, nm, l_form]
theorem p1x_both (a1 : Int32) : (X_both SX0 a1).map Prod.fst = some (-1) := by
  simp [X_both, SX0, F_X11_both, l_nv]
theorem p1m_both (a1 : Int32) : (M_both iM a1).map Prod.fst = some (-1) := by
  have h : mI (mIs iM 0 0) 14 < 2 := by decide
  simp [M_both, F_X12_both, nm, h]
theorem p1x_parting (a1 : Int32) : (X_parting SX0 a1).map Prod.fst = some (-1) := by
  simp [X_parting, SX0, F_X11_parting, l_has1]
theorem p1m_parting (a1 : Int32) : (M_parting iM a1).map Prod.fst = some (-1) := by
  simp [M_parting, F_X12_parting, nm, l_form]
theorem p1x_word (a1 : Int32) (a2 : Int32) : (X_word SX0 a1 a2).map Prod.fst = some (-1) := by
  simp [X_word, SX0, F_X11_word, l_has10]
theorem p1m_word (a1 : Int32) (a2 : Int32) : (M_word iM a1 a2).map Prod.fst = some (-1) := by
  simp [M_word, F_X12_word, nm, l_word]
theorem p1x_form (a1 : Int32) (a2 : Int32) : (X_form SX0 a1 a2).map Prod.fst = some (-1) := by
  simp [X_form, SX0, F_X11_form, l_has1]
theorem p1m_form (a1 : Int32) (a2 : Int32) : (M_form iM a1 a2).map Prod.fst = some (-1) := by
  simp [M_form, F_X12_form, nm, l_form]
theorem p1x_line (a1 : Int32) (a2 : Int32) : (X_line SX0 a1 a2).map Prod.fst = some (-1) := by
  simp [X_line, SX0, F_X11_line, F_X4_part, l_has4]
theorem p1m_line (a1 : Int32) (a2 : Int32) : (M_line iM a1 a2).map Prod.fst = some (-1) := by
  simp [M_line, F_X12_line, nm, l_line]
theorem p1x_stock (a1 : Int32) (a2 : Int32) : (X_stock SX0 a1 a2).map Prod.fst = some (-1) := by
  simp [X_stock, SX0, F_X11_stock, F_X4_part, l_has4]
theorem p1m_stock (a1 : Int32) (a2 : Int32) : (M_stock iM a1 a2).map Prod.fst = some (-1) := by
  have h : mI (mIs iM 0 0) 15 - 1 = -1 := by decide
  simp [M_stock, F_X12_stock, nm, h, l_in]
theorem p1x_change (a1 : Int32) (a2 : Int32) : (X_change SX0 a1 a2).map Prod.fst = some (-1) := by
  simp [X_change, SX0, F_X11_change, l_has4]
theorem p1m_change (a1 : Int32) (a2 : Int32) : (M_change iM a1 a2).map Prod.fst = some (-1) := by
  simp [M_change, F_X12_change, nm, l_line]
theorem p1x_take (a1 : Int32) : (X_take SX0 a1).map Prod.fst = some (-1) := by
  simp [X_take, SX0, F_X11_take, l_has4]
theorem p1m_take (a1 : Int32) : (M_take iM a1).map Prod.fst = some (-1) := by
  simp [M_take, F_X12_take, nm, l_line]
theorem p1x_put (a1 : Int32) (a2 : Int32) (a3 : Int32) (a4 : Int32) : (X_put SX0 a1 a2 a3 a4).map Prod.fst = some (-1) := by
  simp only [X_put, SX0, F_X11_put, F_X4_size, l_has10, Option.bind_some, if_true]
  repeat (first | rfl | split)
theorem p1m_put (a1 : Int32) (a2 : Int32) (a3 : Int32) (a4 : Int32) : (M_put iM a1 a2 a3 a4).map Prod.fst = some (-1) := by
  simp only [M_put, F_X12_put, nm, l_s0, l_word, Option.bind_some]
  unfold F_X12_in
  repeat (first | rfl | split | simp_all)
theorem p1x_rate (a1 : Int32) (a2 : Int32) : (X_rate SX0 a1 a2).map Prod.fst = some (-1000000) := by
  simp [X_rate, SX0, F_X11_rate, l_has4]
theorem p1m_rate (a1 : Int32) (a2 : Int32) : (M_rate iM a1 a2).map Prod.fst = some (-1000000) := by
  simp only [M_rate, F_X12_rate, F_X12_rate_b22, nm, l_line]
  unfold F_X12_in
  repeat (first | rfl | split | simp_all)
theorem p1x_clear : (X_clear SX0).map Prod.fst = some 0 := by
  decide +kernel
theorem p1m_clear : (M_clear iM).map Prod.fst = some 0 := by
  decide +kernel
theorem p1x_read : (X_read SX0).map Prod.fst = some 0 := by
  decide +kernel
theorem p1m_read : (M_read iM).map Prod.fst = some 0 := by
  decide +kernel
theorem p1x_trace : (X_trace SX0).map Prod.fst = some 0 := by
  decide +kernel
theorem p1m_trace : (M_trace iM).map Prod.fst = some 0 := by
  decide +kernel
theorem vp_of {a : Int32} {n : Nat} (hn : n < 2 ^ 31) (h0 : ¬ a < 0) (h1 : ¬ nI n ≤ a) : vp_in a n := by
  rw [vp_in_iff]
  rw [Int32.lt_iff_toInt_lt] at h0
  rw [Int32.le_iff_toInt_le, nI_toInt hn] at h1
  have h2 : ((0 : Int32)).toInt = 0 := by decide
  omega
theorem aget_ok {n : Nat} {f : Nat → Int32} {i : Int32} (h : vp_in i n) : aget n f i = some (f i.toNatClampNeg) := by
  unfold aget
  exact if_neg h
theorem aset_ok {n : Nat} {f : Nat → Int32} {i : Int32} (x : Int32) (h : vp_in i n) : aset n f i x = some (upd f i.toNatClampNeg x) := by
  unfold aset
  exact if_neg h
theorem l_type12 (x1 : Int64) (x3 : Int32) : ∀ (k len n : Nat) (s : SM), mI s 3 = nI len → len + k ≤ 500 → k < n → ∃ s2, F_X12_type_b37 x1 x3 n (nI k - 1) s = some (nI (len + k), s2) := by
  intro k
  induction k with
  | zero =>
    intro len n s hs hl hn
    obtain ⟨n, rfl⟩ : ∃ m, n = m + 1 := ⟨n - 1, by omega⟩
    refine ⟨s, ?_⟩
    rw [F_X12_type_b37, if_pos (by decide), hs]
    rfl
  | succ k ih =>
    intro len n s hs hl hn
    obtain ⟨n, rfl⟩ : ∃ m, n = m + 1 := ⟨n - 1, by omega⟩
    rw [nI_pred, F_X12_type_b37, if_neg (nI_pos (by omega)), hs, aset_ok _ (vp_in_nI (by omega) (by omega))]
    simp only [Option.bind_some, nm]
    obtain ⟨s2, h2⟩ := ih (len + 1) n _ (show mI (mIs (mAs s 2 _) 3 (mI (mAs s 2 _) 3 + 1)) 3 = nI (len + 1) from by
      show mI s 3 + 1 = nI (len + 1)
      rw [hs, nI_1]) (by omega) (by omega)
    exact ⟨s2, by rw [h2, show len + 1 + k = len + (k + 1) by omega]⟩
theorem l_append {s : S8} {len : Nat} (b : Int32) (hs : s8_length s = nI len) (hl : len < 500) : ∃ s2, F_X8_append s b = some s2 ∧ s8_length s2 = nI (len + 1) := by
  unfold F_X8_append
  have h1 : ¬ (500 : Int32) ≤ nI len := by rw [show (500 : Int32) = nI 500 from rfl]; exact nI_ge (by omega) (by omega)
  rw [hs, if_neg (nI_pos (by omega)), if_neg h1, aset_ok _ (vp_in_nI (by omega) (by omega))]
  refine ⟨_, rfl, ?_⟩
  show s8_length s + 1 = nI (len + 1)
  rw [hs, nI_1]
theorem l_type11 (so : S11) (x1 : Int64) (x3 : Int32) : ∀ (k len n : Nat) (s : S8), s8_length s = nI len → len + k ≤ 500 → k < n → ∃ s2, F_X11_type_b36 so x1 x3 n (nI k - 1) s = some (nI (len + k), s2) := by
  intro k
  induction k with
  | zero =>
    intro len n s hs hl hn
    obtain ⟨n, rfl⟩ : ∃ m, n = m + 1 := ⟨n - 1, by omega⟩
    refine ⟨s, ?_⟩
    rw [F_X11_type_b36, if_pos (by decide)]
    simp only [F_X8_length, Option.bind_some, hs]
    rfl
  | succ k ih =>
    intro len n s hs hl hn
    obtain ⟨n, rfl⟩ : ∃ m, n = m + 1 := ⟨n - 1, by omega⟩
    rw [nI_pred, F_X11_type_b36, if_neg (nI_pos (by omega))]
    obtain ⟨s2, h2, h3⟩ := l_append ((Int64.toInt32 (x1.toUInt64 >>> ((8 * nI k).toInt64.toUInt64 &&& Int64.toUInt64 63)).toInt64) &&& 255) hs (by omega)
    rw [h2]
    simp only [Option.bind_some, nm]
    obtain ⟨s4, h4⟩ := ih (len + 1) n s2 h3 (by omega) (by omega)
    exact ⟨s4, by rw [h4, show len + 1 + k = len + (k + 1) by omega]⟩
theorem p1_type {J2 : SX → SM → Prop} (h2 : ∀ st ms, J2 st ms) (a1 : Int64) (a2 : Int32) : ∃ (r r2 : Int32) (st2 : SX) (ms2 : SM), X_type SX0 a1 a2 = some (r, st2) ∧ M_type iM a1 a2 = some (r2, ms2) ∧ r = r2 ∧ J2 st2 ms2 := by
  by_cases c1 : a2 < 1
  · refine p1_of h2 (r := -1) (by simp [X_type, SX0, F_X11_type, c1]) (by simp [M_type, F_X12_type, nm, F_X12_in, c1])
  · by_cases c2 : a2 ≤ 8
    · obtain ⟨k, hk, rfl⟩ : ∃ k : Nat, k ≤ 8 ∧ a2 = nI k := nI_of2 (n := 8) (by decide) (by
        rw [Int32.lt_iff_toInt_lt] at c1 ⊢
        have h1 : ((1 : Int32)).toInt = 1 := by decide
        have h2 : ((0 : Int32)).toInt = 0 := by decide
        omega) c2
      obtain ⟨s2, e1⟩ := l_type11 i11 a1 (nI k) k 0 fu i8 rfl (by omega) (by unfold fu; omega)
      obtain ⟨m2, e2⟩ := l_type12 a1 (nI k) k 0 fu (mIs iM 0 0) rfl (by omega) (by unfold fu; omega)
      rw [Nat.zero_add] at e1 e2
      have c3 : (0 : Int32) + nI k ≤ 500 := by
        rw [Int32.zero_add, show (500 : Int32) = nI 500 from rfl]
        exact nI_le (by omega) (by omega)
      have c4 : ¬ (8 : Int32) < nI k := by
        rw [show (8 : Int32) = nI 8 from rfl]
        exact nI_nlt (by omega) (by omega)
      refine p1_of h2 (r := nI k) ?_ ?_
      · have h5 : F_X11_type i11 i8 a1 (nI k) = some (nI k, s2) := by
          unfold F_X11_type
          rw [if_neg c1, if_pos c2]
          show (if (0 : Int32) + nI k ≤ 500 then _ else _) = _
          rw [if_pos c3]
          exact e1
        show ((F_X11_type i11 i8 a1 (nI k)).map _).map Prod.fst = _
        rw [h5]
        rfl
      · have h5 : F_X12_type iM a1 (nI k) = some (nI k, m2) := by
          unfold F_X12_type F_X12_in
          rw [if_neg c1, if_neg c4]
          show (if (0 : Int32) + nI k ≤ 500 then _ else _) = _
          rw [if_pos c3]
          exact e2
        show ((F_X12_type iM a1 (nI k)).map _).map Prod.fst = _
        rw [h5]
        rfl
    · have c3 : (8 : Int32) < a2 := by
        rw [Int32.le_iff_toInt_le] at c2
        rw [Int32.lt_iff_toInt_lt]
        omega
      refine p1_of h2 (r := -1) (by simp [X_type, SX0, F_X11_type, c1, c2]) (by simp [M_type, F_X12_type, nm, F_X12_in, c1, c3])
theorem l_01 {x : Int32} (h0 : ¬ x < 0) (h1 : x < 2) : x = 0 ∨ x = 1 := by
  rw [Int32.lt_iff_toInt_lt] at h0 h1
  have e0 : ((0 : Int32)).toInt = 0 := by decide
  have e1 : ((1 : Int32)).toInt = 1 := by decide
  have e2 : ((2 : Int32)).toInt = 2 := by decide
  rcases (show x.toInt = 0 ∨ x.toInt = 1 by omega) with h | h
  · exact Or.inl (Int32.toInt_inj.mp (by rw [h, e0]))
  · exact Or.inr (Int32.toInt_inj.mp (by rw [h, e1]))
theorem l_in01 {x : Int32} (h0 : ¬ x = 0) (h1 : ¬ x = 1) : F_X12_in x 0 1 = some 0 := by
  unfold F_X12_in
  by_cases h : x < 0
  · rw [if_pos h]
  · rw [if_neg h]
    by_cases h2 : x < 2
    · rcases l_01 h h2 with h3 | h3
      · exact absurd h3 h0
      · exact absurd h3 h1
    · rw [if_pos (by
        rw [Int32.lt_iff_toInt_lt] at h2 ⊢
        have e1 : ((1 : Int32)).toInt = 1 := by decide
        have e2 : ((2 : Int32)).toInt = 2 := by decide
        omega)]
theorem p1_keep {J2 : SX → SM → Prop} (h2 : ∀ st ms, J2 st ms) (a1 : Int32) : ∃ (r r2 : Int32) (st2 : SX) (ms2 : SM), X_keep SX0 a1 = some (r, st2) ∧ M_keep iM a1 = some (r2, ms2) ∧ r = r2 ∧ J2 st2 ms2 := by
  by_cases h0 : a1 = 0
  · subst h0; exact p1_of h2 (r := 0) (by decide +kernel) (by decide +kernel)
  by_cases h1 : a1 = 1
  · subst h1; exact p1_of h2 (r := 0) (by decide +kernel) (by decide +kernel)
  refine p1_of h2 (r := -1) ?_ (by simp [M_keep, F_X12_keep, nm, l_in01 h0 h1])
  by_cases h : a1 < 0
  · simp [X_keep, SX0, F_X11_keep_1, h0, h]
  · by_cases h3 : a1 < 2
    · rcases l_01 h h3 with h4 | h4
      · exact absurd h4 h0
      · exact absurd h4 h1
    · simp [X_keep, SX0, F_X11_keep_1, h0, h, h3]
theorem p1_back {J2 : SX → SM → Prop} (h2 : ∀ st ms, J2 st ms) (a1 : Int32) : ∃ (r r2 : Int32) (st2 : SX) (ms2 : SM), X_back SX0 a1 = some (r, st2) ∧ M_back iM a1 = some (r2, ms2) ∧ r = r2 ∧ J2 st2 ms2 := by
  by_cases h0 : a1 = 0
  · subst h0; exact p1_of h2 (r := -2) (by decide +kernel) (by decide +kernel)
  by_cases h1 : a1 = 1
  · subst h1; exact p1_of h2 (r := -2) (by decide +kernel) (by decide +kernel)
  refine p1_of h2 (r := -1) ?_ (by simp [M_back, F_X12_back, nm, l_in01 h0 h1])
  by_cases h : a1 < 0
  · simp [X_back, SX0, F_X11_back_1, h0, h]
  · by_cases h3 : a1 < 2
    · rcases l_01 h h3 with h4 | h4
      · exact absurd h4 h0
      · exact absurd h4 h1
    · simp [X_back, SX0, F_X11_back_1, h0, h, h3]
theorem p1_count {J2 : SX → SM → Prop} (h2 : ∀ st ms, J2 st ms) (a1 : Int32) : ∃ (r r2 : Int32) (st2 : SX) (ms2 : SM), X_count SX0 a1 = some (r, st2) ∧ M_count iM a1 = some (r2, ms2) ∧ r = r2 ∧ J2 st2 ms2 := by
  by_cases h0 : a1 = 0
  · subst h0; exact p1_of h2 (r := 0) (by decide +kernel) (by decide +kernel)
  by_cases h1 : a1 = 1
  · subst h1; exact p1_of h2 (r := 0) (by decide +kernel) (by decide +kernel)
  by_cases h3 : a1 = 2
  · subst h3; exact p1_of h2 (r := 0) (by decide +kernel) (by decide +kernel)
  by_cases h4 : a1 = 3
  · subst h4; exact p1_of h2 (r := 0) (by decide +kernel) (by decide +kernel)
  by_cases h5 : a1 = 4
  · subst h5; exact p1_of h2 (r := 0) (by decide +kernel) (by decide +kernel)
  exact p1_of h2 (r := -1) (by simp [X_count, SX0, F_X11_count, h0, h1, h3, h4, h5]) (by simp [M_count, F_X12_count, nm, h0, h1, h3, h4, h5])
theorem p1_metre {J2 : SX → SM → Prop} (h2 : ∀ st ms, J2 st ms) (a1 a2 : Int32) : ∃ (r r2 : Int32) (st2 : SX) (ms2 : SM), X_metre SX0 a1 a2 = some (r, st2) ∧ M_metre iM a1 a2 = some (r2, ms2) ∧ r = r2 ∧ J2 st2 ms2 := by
  have e7 : ((7 : Int32)).toInt = 7 := by decide
  have e8 : ((8 : Int32)).toInt = 8 := by decide
  by_cases c1 : a1 < 0
  · exact p1_of h2 (r := -1) (by simp [X_metre, SX0, F_X11_metre, c1]) (by simp [M_metre, F_X12_metre, nm, F_X12_in, c1])
  by_cases c2 : (8 : Int32) ≤ a1
  · have c3 : (7 : Int32) < a1 := by
      rw [Int32.le_iff_toInt_le] at c2
      rw [Int32.lt_iff_toInt_lt]
      omega
    exact p1_of h2 (r := -1) (by simp [X_metre, SX0, F_X11_metre, c1, c2]) (by simp [M_metre, F_X12_metre, nm, F_X12_in, c1, c3])
  have c3 : ¬ (7 : Int32) < a1 := by
    rw [Int32.le_iff_toInt_le] at c2
    rw [Int32.lt_iff_toInt_lt]
    omega
  by_cases c4 : a2 < 0
  · exact p1_of h2 (r := -1) (by simp [X_metre, SX0, F_X11_metre, c1, c2, c4]) (by simp [M_metre, F_X12_metre, nm, F_X12_in, c1, c3, c4])
  by_cases c5 : a2 ≤ 20
  · have c6 : ¬ (20 : Int32) < a2 := by
      rw [Int32.le_iff_toInt_le] at c5
      rw [Int32.lt_iff_toInt_lt]
      omega
    have v8 : vp_in a1 8 := vp_of (by decide) c1 c2
    have v16 : vp_in a1 16 := by
      rw [vp_in_iff] at v8 ⊢
      omega
    have c7 : ¬ Int32.ofNat 8 ≤ a1 := c2
    exact p1_of h2 (r := 0) (by simp [X_metre, SX0, F_X11_metre, F_X7_metreOf, F_X7_setMetre, F_X6_at, F_X6_set, nm, c1, c2, c4, c5, aget_ok v8, aset_ok a2 v8, s7_metres, i7]) (by simp [M_metre, F_X12_metre, nm, F_X12_in, c1, c3, c4, c6, aget_ok v16, aset_ok a2 v16, mA, mIs, iM])
  · have c6 : (20 : Int32) < a2 := by
      rw [Int32.le_iff_toInt_le] at c5
      rw [Int32.lt_iff_toInt_lt]
      omega
    exact p1_of h2 (r := -1) (by simp [X_metre, SX0, F_X11_metre, c1, c2, c4, c5]) (by simp [M_metre, F_X12_metre, nm, F_X12_in, c1, c3, c4, c6])
theorem step_fresh {J2 : SX → SM → Prop} (h2 : ∀ st ms, J2 st ms) : StepOK J2 SX0 iM := ⟨p1_type h2, fun _ => p1_of h2 p1x_clear p1m_clear, fun _ => p1_of h2 p1x_read p1m_read, fun a1 a2 => p1_of h2 (p1x_word a1 a2) (p1m_word a1 a2), fun a1 a2 => p1_of h2 (p1x_form a1 a2) (p1m_form a1 a2), p1_metre h2, fun a1 a2 => p1_of h2 (p1x_line a1 a2) (p1m_line a1 a2), fun a1 a2 => p1_of h2 (p1x_stock a1 a2) (p1m_stock a1 a2), fun a1 a2 a3 a4 => p1_of h2 (p1x_put a1 a2 a3 a4) (p1m_put a1 a2 a3 a4), fun a1 a2 => p1_of h2 (p1x_change a1 a2) (p1m_change a1 a2), fun a1 => p1_of h2 (p1x_take a1) (p1m_take a1), fun a1 a2 a3 a4 => p1_of h2 (p1x_judged a1 a2 a3 a4) (p1m_judged a1 a2 a3 a4), fun a1 a2 => p1_of h2 (p1x_law a1 a2) (p1m_law a1 a2), fun a1 a2 => p1_of h2 (p1x_empty a1 a2) (p1m_empty a1 a2), fun a1 a2 => p1_of h2 (p1x_bound a1 a2) (p1m_bound a1 a2), fun a1 a2 a3 => p1_of h2 (p1x_struck a1 a2 a3) (p1m_struck a1 a2 a3), fun a1 a2 => p1_of h2 (p1x_key a1 a2) (p1m_key a1 a2), fun a1 a2 a3 => p1_of h2 (p1x_mended a1 a2 a3) (p1m_mended a1 a2 a3), fun a1 a2 a3 a4 => p1_of h2 (p1x_shortest a1 a2 a3 a4) (p1m_shortest a1 a2 a3 a4), fun a1 => p1_of h2 (p1x_both a1) (p1m_both a1), fun a1 => p1_of h2 (p1x_parting a1) (p1m_parting a1), fun a1 a2 a3 => p1_of h2 (p1x_forged a1 a2 a3) (p1m_forged a1 a2 a3), fun a1 a2 a3 a4 => p1_of h2 (p1x_burnt a1 a2 a3 a4) (p1m_burnt a1 a2 a3 a4), fun a1 a2 => p1_of h2 (p1x_rate a1 a2) (p1m_rate a1 a2), p1_keep h2, p1_back h2, p1_count h2, fun _ => p1_of h2 p1x_trace p1m_trace⟩
theorem law_J0 : (fun (j : Nat) (st : SX) (ms : SM) => j = 0 → st = SX0 ∧ ms = iM) 0 SX0 iM := fun _ => ⟨rfl, rfl⟩
theorem law_Js {L : Nat} (hL : L ≤ 5) : ∀ (j : Nat) (st : SX) (ms : SM), j + 5 ≤ L → (fun (j : Nat) (st : SX) (ms : SM) => j = 0 → st = SX0 ∧ ms = iM) j st ms → StepOK ((fun (j : Nat) (st : SX) (ms : SM) => j = 0 → st = SX0 ∧ ms = iM) (j + 5)) st ms := by
  intro j st ms hj hJ
  obtain ⟨rfl, rfl⟩ := hJ (by omega)
  exact step_fresh (fun st ms h => absurd h (by omega))
theorem law_Jd {L : Nat} (_ : L ≤ 5) : ∀ (j : Nat) (st : SX) (ms : SM), j + 5 ≤ L → (fun (j : Nat) (st : SX) (ms : SM) => j = 0 → st = SX0 ∧ ms = iM) j st ms → (fun (j : Nat) (st : SX) (ms : SM) => j = 0 → st = SX0 ∧ ms = iM) (j + 5) st ms := fun j st ms hj hJ h => absurd h (by omega)

set_option maxHeartbeats 4000000 in
set_option maxRecDepth 100000 in
theorem law_start {p : Program} {l : Launch} {e : Env} {s : State} {m : MethodId} {below : List Frame} {meth : Method} {c : Code} {D : gG} {cB cI cJ cZ : ClassId} {b L : Nat} {xs : Nat → Int32} (cx : gX p s m #[Value.ref b] meth c cL_law 4 RL D (tyL cB cI cJ cZ) (fun q => s.heap.size ≤ q)) (hX : va_X b L xs s s.heap) (hbl : b < s.heap.size) (hr : meth.sig.returnType = ret) (hL : L ≤ 5) : gW p l e room_1 s m #[Value.ref b] below meth c D (fun q => s.heap.size ≤ q) 4 (lw_Z below #[Value.ref b] s) 0 0 [] [(0, .ref b)] 0 [] := by
  refine a_new (C := RX11) (T := TX11) (N := 12) (ci := 9) (ty := tyX11) (fs := [.null, .null, .null, .null, .null, .null, .null, .null, .null, .null, .int 0, .long 0]) (cells' := 1) (slots' := 12) cx inT11 tyX11_ok rfl q1_21 q1_22 q1_1 df_X11 rfl rfl ⟨Nat.le_of_ble_eq_true rfl, Nat.le_of_ble_eq_true rfl⟩ dL_law_0 (fun q1 => ?_)
  refine g_dup cx dL_law_3 rfl ?_
  refine a_ctor (mc := 64) (ms := 1290) (wr := []) (ws' := fun u1 => W_X11_init cB cI cJ cZ u1) (cells' := 65) (slots' := 1302) cx ck_RL_9 (c_X11_init l D cB cI cJ cZ q1) rfl 0 rfl [] rfl rfl (by decide) (fun _ => rfl) rfl (Nat.le_of_ble_eq_true rfl) ⟨rfl, rfl, Nat.le_of_ble_eq_true rfl, Nat.le_of_ble_eq_true rfl⟩ rfl rfl ⟨Nat.le_of_ble_eq_true rfl, Nat.le_of_ble_eq_true rfl⟩ dL_law_4 (fun u1 hu1 => ?_)
  subst hu1
  refine g_asn (L' := [(1, .ref (u1 0 0)), (0, .ref b)]) cx dL_law_7 (Nat.le_of_ble_eq_true rfl) rfl ?_
  refine a_new (C := RX12) (T := TX12) (N := 38) (ci := 10) (ty := tyX12) (fs := [.int 0, .long 0, .null, .int 0, .int 0, .int 0, .int 0, .int 0, .int 0, .null, .null, .null, .null, .int 0, .int 0, .int 0, .int 0, .int 0, .int 0, .int 0, .null, .null, .null, .null, .null, .int 0, .null, .null, .null, .null, .null, .null, .null, .null, .null, .null, .null, .null]) (cells' := 66) (slots' := 1340) cx inT12 tyX12_ok rfl q4_217 q4_218 q1_12 df_X12 rfl rfl ⟨Nat.le_of_ble_eq_true rfl, Nat.le_of_ble_eq_true rfl⟩ dL_law_8 (fun q2 => ?_)
  refine g_dup cx dL_law_11 rfl ?_
  refine a_ctor (mc := 22) (ms := 984) (wr := W_X11_init cB cI cJ cZ u1) (ws' := fun u2 => (wL cB cI cJ cZ u1 SX0 .null (u2 0) iM).flatten) (cells' := 88) (slots' := 2324) cx ck_RL_12 (c_X12_init l D cB cI cJ cZ q2) rfl 65 rfl [0, 1, 2, 3, 4, 5, 6, 7, 8, 9, 10, 11, 12, 13, 14, 15, 16, 17, 18, 19, 20, 21, 22, 23, 24, 25, 26, 27, 28, 29, 30, 31, 32, 33, 34, 35, 36, 37, 38, 39, 40, 41, 42, 43, 44, 45, 46, 47, 48, 49, 50, 51, 52, 53, 54, 55, 56, 57, 58, 59, 60, 61, 62, 63, 64] rfl rfl (by decide) (fun _ => rfl) rfl (Nat.le_of_ble_eq_true rfl) ⟨rfl, rfl, Nat.le_of_ble_eq_true rfl, Nat.le_of_ble_eq_true rfl⟩ rfl rfl ⟨Nat.le_of_ble_eq_true rfl, Nat.le_of_ble_eq_true rfl⟩ dL_law_12 (fun u2 hu2 => ?_)
  subst hu2
  refine g_asn (L' := [(2, .ref (u2 0 0)), (1, .ref (u1 0 0)), (0, .ref b)]) cx dL_law_15 (Nat.le_of_ble_eq_true rfl) rfl ?_
  refine g_ic cx dL_law_16 k_ic0 ?_
  refine g_is0 (L' := [(3, .int 0), (2, .ref (u2 0 0)), (1, .ref (u1 0 0)), (0, .ref b)]) cx dL_law_17 (Nat.le_of_ble_eq_true rfl) rfl ?_
  refine g_sub [3, 2, 1, 0] rfl ?_
  exact law_loop cx hX hbl hr hL (fun j st ms => j = 0 → st = SX0 ∧ ms = iM) (law_Js hL) (law_Jd hL) (L + 6) 0 u1 SX0 .null (u2 0) iM law_J0 (by omega) (by omega)
set_option maxHeartbeats 4000000 in
set_option maxRecDepth 100000 in
theorem whole_start {p : Program} {e : Env} {s : State} {m : MethodId} {below : List Frame} {meth : Method} {c : Code} (l : Launch) (hflags : l.flags = flags0) {b L : Nat} {xs : Nat → Int32} (hL : L ≤ 5) (C0 : lw_At p s m meth c b L xs) : W p l e room_1 s m #[Value.ref b] below meth c s.heap [] 0 0 (lw_Z below #[Value.ref b] s) (entryFrame m ([Value.ref b] : List Value).toArray 4) := by
  obtain ⟨hx, hb, hr, hml, hown, hts, hX, hbl, hlocks, hgv⟩ := id C0
  have hT : ∀ w ∈ TT, w.before #[Value.ref b] s = true := fun w h => hts w (tt_tbl w h)
  obtain ⟨c0, iS0, hKn0⟩ := u_known (C := RX0) (T := TX0) (N := 6) (n := 6) hT inT0 (hT _ q1_128)
  obtain ⟨c1, iS1, hKn1⟩ := u_known (C := RX1) (T := TX1) (N := 3) (n := 3) hT inT1 (hT _ q1_180)
  obtain ⟨c2, iS2, hKn2⟩ := u_known (C := RX2) (T := TX2) (N := 2) (n := 2) hT inT2 (hT _ q1_114)
  obtain ⟨c3, iS3, hKn3⟩ := u_known (C := RX3) (T := TX3) (N := 2) (n := 2) hT inT3 (hT _ q1_101)
  obtain ⟨c4, iS4, hKn4⟩ := u_known (C := RX4) (T := TX4) (N := 5) (n := 5) hT inT4 (hT _ q1_76)
  obtain ⟨c5, iS5, hKn5⟩ := u_known (C := RX7) (T := TX7) (N := 5) (n := 5) hT inT7 (hT _ q1_155)
  obtain ⟨c6, iS6, hKn6⟩ := u_known (C := RX8) (T := TX8) (N := 5) (n := 5) hT inT8 (hT _ q1_30)
  obtain ⟨c7, iS7, hKn7⟩ := u_known (C := RX9) (T := TX9) (N := 5) (n := 5) hT inT9 (hT _ q1_53)
  obtain ⟨c8, iS8, hKn8⟩ := u_known (C := RX10) (T := TX10) (N := 4) (n := 4) hT inT10 (hT _ q1_161)
  obtain ⟨c9, iS9, hKn9⟩ := u_known (C := RX11) (T := TX11) (N := 12) (n := 12) hT inT11 (hT _ q1_22)
  obtain ⟨c10, iS10, hKn10⟩ := u_known (C := RX12) (T := TX12) (N := 38) (n := 38) hT inT12 (hT _ q4_218)
  obtain ⟨dC, dI, hKc⟩ : ∃ (dC : Nat → ClassId) (dI : Nat → Nat → Nat), ∀ (k : Nat) (q : vw_C), vwCl[k]? = some q → u_Kn s q.1 q.2.1 q.2.2 (dC k) (dI k) := by
    refine ⟨fun k => match k with | 0 => c0 | 1 => c1 | 2 => c2 | 3 => c3 | 4 => c4 | 5 => c5 | 6 => c6 | 7 => c7 | 8 => c8 | 9 => c9 | _ => c10, fun k => match k with | 0 => iS0 | 1 => iS1 | 2 => iS2 | 3 => iS3 | 4 => iS4 | 5 => iS5 | 6 => iS6 | 7 => iS7 | 8 => iS8 | 9 => iS9 | _ => iS10, ?_⟩
    intro k q hq
    match k, hq with
    | 0, hq => cases hq; exact hKn0
    | 1, hq => cases hq; exact hKn1
    | 2, hq => cases hq; exact hKn2
    | 3, hq => cases hq; exact hKn3
    | 4, hq => cases hq; exact hKn4
    | 5, hq => cases hq; exact hKn5
    | 6, hq => cases hq; exact hKn6
    | 7, hq => cases hq; exact hKn7
    | 8, hq => cases hq; exact hKn8
    | 9, hq => cases hq; exact hKn9
    | 10, hq => cases hq; exact hKn10
    | k + 11, hq => simp [vwCl] at hq
  obtain ⟨cB, hB1, hB2⟩ := arr_known (hT _ q1_51)
  obtain ⟨cI, hI1, hI2⟩ := arr_known (hT _ q1_74)
  obtain ⟨cJ, hJ1, hJ2⟩ := arr_known (hT _ q1_126)
  obtain ⟨cZ, hZ1, hZ2⟩ := arr_known (hT _ q5_98)
  have hK : va_K (dC, dI) vwCl (tyL cB cI cJ cZ) s := ⟨hKc, fun k q h => by
    match k, h with
    | 0, h => cases h; exact ⟨hB1, hB2⟩
    | 1, h => cases h; exact ⟨hI1, hI2⟩
    | 2, h => cases h; exact ⟨hJ1, hJ2⟩
    | 3, h => cases h; exact ⟨hZ1, hZ2⟩
    | k + 4, h => simp at h⟩
  have hn := flat_of_before _ hgv
  have hA0 : ∀ a : Nat, a < s.heap.size → ¬ (fun q : Nat => s.heap.size ≤ q) a := fun a h => Nat.not_le.mpr h
  obtain ⟨adK, adV, hS0, hS1⟩ := vk_Sof (args := #[Value.ref b]) (s := s) (N := 5) (tm := (fun i => match i with | 0 => Term.string "RhymeLaw$Reader" 39 | 1 => Term.string "RhymeLaw$Reader" 53 | 2 => Term.string "RhymeLaw$Reader" 63 | 3 => Term.string "RhymeLaw$Reader" 68 | _ => Term.string "RhymeLaw$Reader" 78)) (len := sLen) (byt := sByt) (A := fun q : Nat => s.heap.size ≤ q) (fun i hi => str_len hi)
    (fun i hi => by match i, hi with | 0, _ => exact hn _ (by decide +kernel) | 1, _ => exact hn _ (by decide +kernel) | 2, _ => exact hn _ (by decide +kernel) | 3, _ => exact hn _ (by decide +kernel) | 4, _ => exact hn _ (by decide +kernel) | n + 5, h => omega)
    (fun i hi => by match i, hi with | 0, _ => exact hn _ (by decide +kernel) | 1, _ => exact hn _ (by decide +kernel) | 2, _ => exact hn _ (by decide +kernel) | 3, _ => exact hn _ (by decide +kernel) | 4, _ => exact hn _ (by decide +kernel) | n + 5, h => omega)
    (fun i hi => by match i, hi with | 0, _ => exact hn _ (by decide +kernel) | 1, _ => exact hn _ (by decide +kernel) | 2, _ => exact hn _ (by decide +kernel) | 3, _ => exact hn _ (by decide +kernel) | 4, _ => exact hn _ (by decide +kernel) | n + 5, h => omega)
    (fun i hi => by match i, hi with | 0, _ => exact hn _ (by decide +kernel) | 1, _ => exact hn _ (by decide +kernel) | 2, _ => exact hn _ (by decide +kernel) | 3, _ => exact hn _ (by decide +kernel) | 4, _ => exact hn _ (by decide +kernel) | n + 5, h => omega)
    (fun i hi j hj => by match i, hi with | 0, _ => (match j, hj with | 0, _ => exact hn _ (by decide +kernel) | 1, _ => exact hn _ (by decide +kernel) | 2, _ => exact hn _ (by decide +kernel) | 3, _ => exact hn _ (by decide +kernel) | n + 4, h => exact absurd h (by show ¬ n + 4 < 4; omega)) | 1, _ => (match j, hj with | 0, _ => exact hn _ (by decide +kernel) | 1, _ => exact hn _ (by decide +kernel) | 2, _ => exact hn _ (by decide +kernel) | 3, _ => exact hn _ (by decide +kernel) | n + 4, h => exact absurd h (by show ¬ n + 4 < 4; omega)) | 2, _ => (match j, hj with | 0, _ => exact hn _ (by decide +kernel) | 1, _ => exact hn _ (by decide +kernel) | 2, _ => exact hn _ (by decide +kernel) | 3, _ => exact hn _ (by decide +kernel) | 4, _ => exact hn _ (by decide +kernel) | n + 5, h => exact absurd h (by show ¬ n + 5 < 5; omega)) | 3, _ => (match j, hj with | 0, _ => exact hn _ (by decide +kernel) | 1, _ => exact hn _ (by decide +kernel) | 2, _ => exact hn _ (by decide +kernel) | 3, _ => exact hn _ (by decide +kernel) | n + 4, h => exact absurd h (by show ¬ n + 4 < 4; omega)) | 4, _ => (match j, hj with | 0, _ => exact hn _ (by decide +kernel) | 1, _ => exact hn _ (by decide +kernel) | 2, _ => exact hn _ (by decide +kernel) | 3, _ => exact hn _ (by decide +kernel) | 4, _ => exact hn _ (by decide +kernel) | n + 5, h => exact absurd h (by show ¬ n + 5 < 5; omega)) | n + 5, h => omega)
    (fun i j hi hj hij => by match i, hi, j, hj with | 0, _, 0, _ => exact absurd rfl hij | 0, _, 1, _ => exact Or.inl (hn _ (by decide +kernel)) | 0, _, 2, _ => exact Or.inl (hn _ (by decide +kernel)) | 0, _, 3, _ => exact Or.inl (hn _ (by decide +kernel)) | 0, _, 4, _ => exact Or.inl (hn _ (by decide +kernel)) | 1, _, 0, _ => exact Or.inr (hn _ (by decide +kernel)) | 1, _, 1, _ => exact absurd rfl hij | 1, _, 2, _ => exact Or.inl (hn _ (by decide +kernel)) | 1, _, 3, _ => exact Or.inl (hn _ (by decide +kernel)) | 1, _, 4, _ => exact Or.inl (hn _ (by decide +kernel)) | 2, _, 0, _ => exact Or.inr (hn _ (by decide +kernel)) | 2, _, 1, _ => exact Or.inr (hn _ (by decide +kernel)) | 2, _, 2, _ => exact absurd rfl hij | 2, _, 3, _ => exact Or.inl (hn _ (by decide +kernel)) | 2, _, 4, _ => exact Or.inl (hn _ (by decide +kernel)) | 3, _, 0, _ => exact Or.inr (hn _ (by decide +kernel)) | 3, _, 1, _ => exact Or.inr (hn _ (by decide +kernel)) | 3, _, 2, _ => exact Or.inr (hn _ (by decide +kernel)) | 3, _, 3, _ => exact absurd rfl hij | 3, _, 4, _ => exact Or.inl (hn _ (by decide +kernel)) | 4, _, 0, _ => exact Or.inr (hn _ (by decide +kernel)) | 4, _, 1, _ => exact Or.inr (hn _ (by decide +kernel)) | 4, _, 2, _ => exact Or.inr (hn _ (by decide +kernel)) | 4, _, 3, _ => exact Or.inr (hn _ (by decide +kernel)) | 4, _, 4, _ => exact absurd rfl hij | n + 5, h, _, _ => omega | _, _, n + 5, h => omega) hA0
  have hF : SF ((dC, dI), adK, adV) (fun q : Nat => s.heap.size ≤ q) s s.heap := ⟨hS0, ⟨vk_R.of (hts (.stringRef "RhymeLaw$Reader" 39 "word") (by exact List.mem_append_right _ (List.mem_append_right _ (List.mem_append_left _ (List.mem_of_getElem? (i := 98) (by decide +kernel)))))) (hS1 0 (by decide)), vk_R.of (hts (.stringRef "RhymeLaw$Reader" 53 "form") (by exact List.mem_append_right _ (List.mem_append_right _ (List.mem_append_left _ (List.mem_of_getElem? (i := 180) (by decide +kernel)))))) (hS1 1 (by decide)), vk_R.of (hts (.stringRef "RhymeLaw$Reader" 63 "metre") (by exact List.mem_append_right _ (List.mem_append_right _ (List.mem_append_left _ (List.mem_of_getElem? (i := 209) (by decide +kernel)))))) (hS1 2 (by decide)), vk_R.of (hts (.stringRef "RhymeLaw$Reader" 68 "line") (by exact List.mem_append_right _ (List.mem_append_right _ (List.mem_append_left _ (List.mem_of_getElem? (i := 218) (by decide +kernel)))))) (hS1 3 (by decide)), vk_R.of (hts (.stringRef "RhymeLaw$Reader" 78 "stock") (by exact List.mem_append_right _ (List.mem_append_right _ (List.mem_append_right _ (List.mem_append_left _ (List.mem_of_getElem? (i := 17) (by decide +kernel))))))) (hS1 4 (by decide))⟩,
    va_Zof (args := #[Value.ref b]) (hts (.laysStatic "java/lang/String" "COMPACT_STRINGS" "Z") (by exact List.mem_append_right _ (List.mem_append_right _ (List.mem_append_left _ (List.mem_of_getElem? (i := 112) (by decide +kernel)))))) (hT _ q1_15) (va_eqt (hn _ (by decide +kernel))) hA0,
    va_Zqof (args := #[Value.ref b]) (hts (.laysStatic "jdk/internal/util/Preconditions" "SIOOBE_FORMATTER" "Ljava/util/function/BiFunction;") (by exact List.mem_append_right _ (List.mem_append_right _ (List.mem_append_left _ (List.mem_of_getElem? (i := 128) (by decide +kernel)))))) (hT _ q1_17) (hn _ (by decide +kernel)) hA0⟩
  have cx : gX p s m #[Value.ref b] meth c cL_law 4 RL ((dC, dI), adK, adV) (tyL cB cI cJ cZ) (fun q => s.heap.size ≤ q) := ⟨hx, hb, hml, hown, hT, hK, fun _ h => h, hlocks, hF⟩
  rw [lg_entry_eq]
  exact law_start cx hX hbl hr hL ⟨Nat.zero_le _, Nat.zero_le _⟩ s.heap [] _ (fun k q h => by simp at h) ⟨fun i j p q h => by simp at h, fun k q h => by simp at h⟩ va_S.rf (lv_entry [.ref b] (Nat.le_of_ble_eq_true rfl))
