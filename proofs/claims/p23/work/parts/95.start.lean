theorem k_bp31 : (Int8.ofInt (31)).toInt32 = 31 := by decide
theorem k_inc5 (x : Int32) : x + Int32.ofInt (5) = x + 5 := by rfl
theorem q1_21 : Cond.classLink RL 7 RX11 ∈ TT := tq1 21 rfl rfl
theorem q1_22 : Cond.instantiable RX11 12 ∈ TT := tq1 22 rfl rfl
theorem q1_23 : Cond.methodLink RL 9 yX11_init ∈ TT := tq1 23 rfl rfl
theorem q1_24 : Cond.instanceMethod yX11_init ∈ TT := tq1 24 rfl rfl
theorem q1_25 : Cond.code yX11_init cX11_init 1 none ∈ TT := tq1 25 rfl rfl
theorem q4_217 : Cond.classLink RL 10 RX12 ∈ TT := tq4 217 rfl rfl
theorem q4_218 : Cond.instantiable RX12 38 ∈ TT := tq4 218 rfl rfl
theorem q4_219 : Cond.methodLink RL 12 yX12_init ∈ TT := tq4 219 rfl rfl
theorem q4_220 : Cond.instanceMethod yX12_init ∈ TT := tq4 220 rfl rfl
theorem q4_221 : Cond.code yX12_init cX12_init 1 none ∈ TT := tq4 221 rfl rfl
theorem ck_RL_9 : clk RL 9 yX11_init cX11_init 1 0 := ⟨⟨q1_23, q1_24, q1_1⟩, q1_25, rfl, by decide, by decide, by decide +kernel⟩
theorem ck_RL_12 : clk RL 12 yX12_init cX12_init 1 0 := ⟨⟨q4_219, q4_220, q1_12⟩, q4_221, rfl, by decide, by decide, by decide +kernel⟩
theorem lp_lt {L j : Nat} (hL : L ≤ 2560) (hj : j < 10000) : (nI L - 5 < nI j) ↔ L < j + 5 := by
  rw [Int32.lt_iff_toInt_lt, show (5 : Int32) = nI 5 from rfl, pk_sub_toInt (by omega) (by omega), nI_toInt (by omega)]
  omega
theorem arr_known {s : State} {args : Array Value} {ty : FieldType} (h : (Cond.arrayClass ty).before args s = true) : ∃ cA : ClassId, ArrOfT s cA ty ∧ s.vm.findClass ("[" ++ ty.toString) = some cA := by
  obtain ⟨cA, kA, comp, h1, h2, h3⟩ := Cond.arrayClass_spec h
  exact ⟨cA, fun n z => ⟨fun k h => (by cases h), kA, h2, comp, h3⟩, h1⟩
set_option maxHeartbeats 4000000 in
set_option maxRecDepth 100000 in
theorem law_loop {p : Program} {l : Launch} {e : Env} {s : State} {m : MethodId} {below : List Frame} {meth : Method} {c : Code} {D : gG} {cB cI cJ cZ : ClassId} {b L : Nat} {xs : Nat → Int32} (cx : gX p s m #[Value.ref b] meth c cL_law 4 RL D (tyL cB cI cJ cZ) (fun q => s.heap.size ≤ q)) (hX : va_X b L xs s s.heap) (hbl : b < s.heap.size) (hr : meth.sig.returnType = ret) (hL : L ≤ 2560) (J : Nat → SX → SM → Prop) (hs : ∀ (j : Nat) (st : SX) (ms : SM), j + 5 ≤ L → J j st ms → StepOK (J (j + 5)) st ms) (hd : ∀ (j : Nat) (st : SX) (ms : SM), j + 5 ≤ L → J j st ms → J (j + 5) st ms) : ∀ (n j : Nat) (u : Nat → Nat → Nat) (st : SX) (tv : Value) (mo : Nat → Nat) (ms : SM), J j st ms → j ≤ L + 5 → L + 5 - j < n → gW p l e room_1 s m #[Value.ref b] below meth c D (fun q => s.heap.size ≤ q) 4 (lw_Z below #[Value.ref b] s) 88 2324 (wL cB cI cJ cZ u st tv mo ms).flatten [(0, .ref b), (1, .ref (u 0 0)), (2, .ref (mo 0)), (3, .int (nI j))] 18 [] := by
  intro n
  induction n with
  | zero => intro j u st tv mo ms hJ hj hn; omega
  | succ n ih =>
    intro j u st tv mo ms hJ hjL hn
    refine g_iln cx 3 dL_law_18 rfl ?_
    refine g_aln cx 0 dL_law_19 rfl ?_
    refine g_slen cx hX hbl (Nat.not_le.mpr hbl) dL_law_20 ?_
    refine g_ic cx dL_law_21 k_ic5 ?_
    refine g_isub cx dL_law_22 ?_
    refine g_cgt (tgt := 1110) cx dL_law_23 rfl (fun hx => ?_) (fun hx => ?_)
    · refine g_ic cx dL_law_1110 k_ic1 ?_
      exact fun hc H locs ls hP hD hS h => va_forget hS.2.2 (W.widen (Nat.le_of_ble_eq_true rfl) (Nat.le_of_ble_eq_true rfl) (lw_ret cx.1 cx.2.1 hr cx.2.2.2.2.2.2.2.1 dL_law_1111))
    · have hj : j + 5 ≤ L := by
        rw [lp_lt (by omega) (by omega)] at hx; omega
      have kk : ∀ (u : Nat → Nat → Nat) (mo : Nat → Nat) (st : SX) (tv : Value) (ms : SM), J (j + 5) st ms → gW p l e room_1 s m #[Value.ref b] below meth c D (fun q => s.heap.size ≤ q) 4 (lw_Z below #[Value.ref b] s) 88 2324 (wL cB cI cJ cZ u st tv mo ms).flatten [(0, .ref b), (1, .ref (u 0 0)), (2, .ref (mo 0)), (3, .int (nI j))] 1104 [] := by
        intro u mo st tv ms hJ
        refine g_inc0 (L' := [(3, .int (nI (j + 5))), (0, .ref b), (1, .ref (u 0 0)), (2, .ref (mo 0))]) cx 3 dL_law_1104 rfl (by rw [k_inc5, show (5 : Int32) = nI 5 from rfl, nI_add]) (Nat.le_of_ble_eq_true rfl) rfl ?_
        refine g_goto (tgt := 18) cx dL_law_1107 rfl ?_
        refine g_sub [1, 2, 3, 0] rfl ?_
        exact ih (j + 5) u st tv mo ms hJ (by omega) (by omega)
      have hst := hs j st ms hj hJ
      refine g_aln cx 0 dL_law_26 rfl ?_
      refine g_iln cx 3 dL_law_27 rfl ?_
      refine g_sld cx hX hbl (Nat.not_le.mpr hbl) (vp_in_nI (by omega) (by omega)) dL_law_28 ?_
      refine g_bp cx dL_law_29 k_bp31 ?_
      refine g_iand cx dL_law_31 ?_
      by_cases hx0 : xs (nI j).toNatClampNeg &&& 31 = 0
      · exact g_swIn (tgt := 160) cx 0 hx0 (by decide) dL_law_32 (by decide) rfl rfl (lwc_type cx hX hbl hj (by omega) hst kk)
      by_cases hx1 : xs (nI j).toNatClampNeg &&& 31 = 1
      · exact g_swIn (tgt := 223) cx 1 hx1 (by decide) dL_law_32 (by decide) rfl rfl (lwc_clear cx hX hbl hj (by omega) hst kk)
      by_cases hx2 : xs (nI j).toNatClampNeg &&& 31 = 2
      · exact g_swIn (tgt := 236) cx 2 hx2 (by decide) dL_law_32 (by decide) rfl rfl (lwc_read cx hX hbl hj (by omega) hst kk)
      by_cases hx3 : xs (nI j).toNatClampNeg &&& 31 = 3
      · exact g_swIn (tgt := 249) cx 3 hx3 (by decide) dL_law_32 (by decide) rfl rfl (lwc_word cx hX hbl hj (by omega) hst kk)
      by_cases hx4 : xs (nI j).toNatClampNeg &&& 31 = 4
      · exact g_swIn (tgt := 282) cx 4 hx4 (by decide) dL_law_32 (by decide) rfl rfl (lwc_form cx hX hbl hj (by omega) hst kk)
      by_cases hx5 : xs (nI j).toNatClampNeg &&& 31 = 5
      · exact g_swIn (tgt := 315) cx 5 hx5 (by decide) dL_law_32 (by decide) rfl rfl (lwc_metre cx hX hbl hj (by omega) hst kk)
      by_cases hx6 : xs (nI j).toNatClampNeg &&& 31 = 6
      · exact g_swIn (tgt := 348) cx 6 hx6 (by decide) dL_law_32 (by decide) rfl rfl (lwc_line cx hX hbl hj (by omega) hst kk)
      by_cases hx7 : xs (nI j).toNatClampNeg &&& 31 = 7
      · exact g_swIn (tgt := 381) cx 7 hx7 (by decide) dL_law_32 (by decide) rfl rfl (lwc_stock cx hX hbl hj (by omega) hst kk)
      by_cases hx8 : xs (nI j).toNatClampNeg &&& 31 = 8
      · exact g_swIn (tgt := 414) cx 8 hx8 (by decide) dL_law_32 (by decide) rfl rfl (lwc_put cx hX hbl hj (by omega) hst kk)
      by_cases hx9 : xs (nI j).toNatClampNeg &&& 31 = 9
      · exact g_swIn (tgt := 467) cx 9 hx9 (by decide) dL_law_32 (by decide) rfl rfl (lwc_change cx hX hbl hj (by omega) hst kk)
      by_cases hx10 : xs (nI j).toNatClampNeg &&& 31 = 10
      · exact g_swIn (tgt := 500) cx 10 hx10 (by decide) dL_law_32 (by decide) rfl rfl (lwc_take cx hX hbl hj (by omega) hst kk)
      by_cases hx11 : xs (nI j).toNatClampNeg &&& 31 = 11
      · exact g_swIn (tgt := 523) cx 11 hx11 (by decide) dL_law_32 (by decide) rfl rfl (lwc_judged cx hX hbl hj (by omega) hst kk)
      by_cases hx12 : xs (nI j).toNatClampNeg &&& 31 = 12
      · exact g_swIn (tgt := 576) cx 12 hx12 (by decide) dL_law_32 (by decide) rfl rfl (lwc_law cx hX hbl hj (by omega) hst kk)
      by_cases hx13 : xs (nI j).toNatClampNeg &&& 31 = 13
      · exact g_swIn (tgt := 609) cx 13 hx13 (by decide) dL_law_32 (by decide) rfl rfl (lwc_empty cx hX hbl hj (by omega) hst kk)
      by_cases hx14 : xs (nI j).toNatClampNeg &&& 31 = 14
      · exact g_swIn (tgt := 642) cx 14 hx14 (by decide) dL_law_32 (by decide) rfl rfl (lwc_bound cx hX hbl hj (by omega) hst kk)
      by_cases hx15 : xs (nI j).toNatClampNeg &&& 31 = 15
      · exact g_swIn (tgt := 675) cx 15 hx15 (by decide) dL_law_32 (by decide) rfl rfl (lwc_struck cx hX hbl hj (by omega) hst kk)
      by_cases hx16 : xs (nI j).toNatClampNeg &&& 31 = 16
      · exact g_swIn (tgt := 718) cx 16 hx16 (by decide) dL_law_32 (by decide) rfl rfl (lwc_key cx hX hbl hj (by omega) hst kk)
      by_cases hx17 : xs (nI j).toNatClampNeg &&& 31 = 17
      · exact g_swIn (tgt := 751) cx 17 hx17 (by decide) dL_law_32 (by decide) rfl rfl (lwc_mended cx hX hbl hj (by omega) hst kk)
      by_cases hx18 : xs (nI j).toNatClampNeg &&& 31 = 18
      · exact g_swIn (tgt := 794) cx 18 hx18 (by decide) dL_law_32 (by decide) rfl rfl (lwc_shortest cx hX hbl hj (by omega) hst kk)
      by_cases hx19 : xs (nI j).toNatClampNeg &&& 31 = 19
      · exact g_swIn (tgt := 847) cx 19 hx19 (by decide) dL_law_32 (by decide) rfl rfl (lwc_both cx hX hbl hj (by omega) hst kk)
      by_cases hx20 : xs (nI j).toNatClampNeg &&& 31 = 20
      · exact g_swIn (tgt := 870) cx 20 hx20 (by decide) dL_law_32 (by decide) rfl rfl (lwc_parting cx hX hbl hj (by omega) hst kk)
      by_cases hx21 : xs (nI j).toNatClampNeg &&& 31 = 21
      · exact g_swIn (tgt := 893) cx 21 hx21 (by decide) dL_law_32 (by decide) rfl rfl (lwc_forged cx hX hbl hj (by omega) hst kk)
      by_cases hx22 : xs (nI j).toNatClampNeg &&& 31 = 22
      · exact g_swIn (tgt := 936) cx 22 hx22 (by decide) dL_law_32 (by decide) rfl rfl (lwc_burnt cx hX hbl hj (by omega) hst kk)
      by_cases hx23 : xs (nI j).toNatClampNeg &&& 31 = 23
      · exact g_swIn (tgt := 989) cx 23 hx23 (by decide) dL_law_32 (by decide) rfl rfl (lwc_rate cx hX hbl hj (by omega) hst kk)
      by_cases hx24 : xs (nI j).toNatClampNeg &&& 31 = 24
      · exact g_swIn (tgt := 1022) cx 24 hx24 (by decide) dL_law_32 (by decide) rfl rfl (lwc_keep cx hX hbl hj (by omega) hst kk)
      by_cases hx25 : xs (nI j).toNatClampNeg &&& 31 = 25
      · exact g_swIn (tgt := 1045) cx 25 hx25 (by decide) dL_law_32 (by decide) rfl rfl (lwc_back cx hX hbl hj (by omega) hst kk)
      by_cases hx26 : xs (nI j).toNatClampNeg &&& 31 = 26
      · exact g_swIn (tgt := 1068) cx 26 hx26 (by decide) dL_law_32 (by decide) rfl rfl (lwc_count cx hX hbl hj (by omega) hst kk)
      by_cases hx27 : xs (nI j).toNatClampNeg &&& 31 = 27
      · exact g_swIn (tgt := 1091) cx 27 hx27 (by decide) dL_law_32 (by decide) rfl rfl (lwc_trace cx hX hbl hj (by omega) hst kk)
      exact g_swOut (tgt := 1104) cx 27 (sw_27 hx0 hx1 hx2 hx3 hx4 hx5 hx6 hx7 hx8 hx9 hx10 hx11 hx12 hx13 hx14 hx15 hx16 hx17 hx18 hx19 hx20 hx21 hx22 hx23 hx24 hx25 hx26 hx27) dL_law_32 rfl (kk u mo st tv ms (hd j st ms hj hJ))
def SX0 : SX := (i11, i8, i9, (i4 8), i3, i2, i0, (i4 6), (i4 8), (i4 8), i7, i10, i1, (i4 8), (i4 6), i7, i10, i1, (i4 8), (i4 6))
theorem law_J0 : (fun (_ : Nat) (st : SX) (ms : SM) => Inv st ms) 0 SX0 iM := by
  have lr : ∀ (r : Nat → Int32) (M : Nat) (m : Int32), m = nI M → LR (i4 m) 0 M 0 r := fun r M m e => ⟨Nat.zero_le _, e, ⟨k_0, fun j h => absurd h (Nat.not_lt_zero j)⟩, fun j h => absurd h (Nat.not_lt_zero j)⟩
  have im : ∀ c, c < 2 → IM i11 (i4 8) c 0 iM := by
    intro c _
    refine ⟨k_8, ⟨fun q => ?_, fun q => ?_⟩, Or.inl rfl, fun q => ?_⟩
    · have e : tb (0 : Int32) c = true := q
      rw [tb_0] at e; cases e
    · exact absurd (show (0 : Int32) = 1 from q) (by decide)
    · exact absurd (show (0 : Int32) = 1 from q) (by decide)
  have z : Lb 0 21 := ⟨0, by decide, k_0⟩
  exact ⟨0, 0, 0, 0, 0, ⟨k_0, k_0, k_0, k_0, k_0⟩, ⟨Nat.zero_le _, k_0, fun j h => absurd h (Nat.not_lt_zero j)⟩, ⟨Nat.zero_le _, k_0, fun j h => absurd h (Nat.not_lt_zero j)⟩, ⟨Nat.zero_le _, k_0, fun j h => absurd h (Nat.not_lt_zero j)⟩, fun l _ => ⟨z, rfl⟩, lr _ 8 8 k_8, lr _ 6 6 k_6, im 0 (by decide), im 1 (by decide), ⟨k_8, k_6, k_8, k_6⟩, rfl⟩
theorem law_Js {L : Nat} (_ : L ≤ 2560) : ∀ (j : Nat) (st : SX) (ms : SM), j + 5 ≤ L → (fun (_ : Nat) (st : SX) (ms : SM) => Inv st ms) j st ms → StepOK ((fun (_ : Nat) (st : SX) (ms : SM) => Inv st ms) (j + 5)) st ms := by
  intro j st ms _ hJ
  have h : Inv st ms := hJ
  exact ⟨(fun a1 a2 => by
    obtain ⟨r, r2, st2, ms2, e1, e2, -, e3⟩ := op_type h a1 a2
    exact ⟨r, r2, st2, ms2, e1, e2, e3⟩),
    (fun (_ : Unit) => by
    obtain ⟨r, r2, st2, ms2, e1, e2, -, e3⟩ := op_clear h ()
    exact ⟨r, r2, st2, ms2, e1, e2, e3⟩),
    (fun (_ : Unit) => by
    obtain ⟨r, r2, st2, ms2, e1, e2, -, e3⟩ := op_read h ()
    exact ⟨r, r2, st2, ms2, e1, e2, e3⟩),
    (fun a1 a2 => by
    obtain ⟨r, r2, st2, ms2, e1, e2, -, e3⟩ := op_word h a1 a2
    exact ⟨r, r2, st2, ms2, e1, e2, e3⟩),
    (fun a1 a2 => by
    obtain ⟨r, r2, st2, ms2, e1, e2, -, e3⟩ := op_form h a1 a2
    exact ⟨r, r2, st2, ms2, e1, e2, e3⟩),
    (fun a1 a2 => by
    obtain ⟨r, r2, st2, ms2, e1, e2, -, e3⟩ := op_metre h a1 a2
    exact ⟨r, r2, st2, ms2, e1, e2, e3⟩),
    (fun a1 a2 => by
    obtain ⟨r, r2, st2, ms2, e1, e2, -, e3⟩ := op_line h a1 a2
    exact ⟨r, r2, st2, ms2, e1, e2, e3⟩),
    (fun a1 a2 => by
    obtain ⟨r, r2, st2, ms2, e1, e2, -, e3⟩ := op_stock h a1 a2
    exact ⟨r, r2, st2, ms2, e1, e2, e3⟩),
    (fun a1 a2 a3 a4 => by
    obtain ⟨r, r2, st2, ms2, e1, e2, -, e3⟩ := op_put h a1 a2 a3 a4
    exact ⟨r, r2, st2, ms2, e1, e2, e3⟩),
    (fun a1 a2 => by
    obtain ⟨r, r2, st2, ms2, e1, e2, -, e3⟩ := op_change h a1 a2
    exact ⟨r, r2, st2, ms2, e1, e2, e3⟩),
    (fun a1 => by
    obtain ⟨r, r2, st2, ms2, e1, e2, -, e3⟩ := op_take h a1
    exact ⟨r, r2, st2, ms2, e1, e2, e3⟩),
    (fun a1 a2 a3 a4 => by
    obtain ⟨r, r2, st2, ms2, e1, e2, -, e3⟩ := op_judged h a1 a2 a3 a4
    exact ⟨r, r2, st2, ms2, e1, e2, e3⟩),
    (fun a1 a2 => by
    obtain ⟨r, r2, st2, ms2, e1, e2, -, e3⟩ := op_law h a1 a2
    exact ⟨r, r2, st2, ms2, e1, e2, e3⟩),
    (fun a1 a2 => by
    obtain ⟨r, r2, st2, ms2, e1, e2, -, e3⟩ := op_empty h a1 a2
    exact ⟨r, r2, st2, ms2, e1, e2, e3⟩),
    (fun a1 a2 => by
    obtain ⟨r, r2, st2, ms2, e1, e2, -, e3⟩ := op_bound h a1 a2
    exact ⟨r, r2, st2, ms2, e1, e2, e3⟩),
    (fun a1 a2 a3 => by
    obtain ⟨r, r2, st2, ms2, e1, e2, -, e3⟩ := op_struck h a1 a2 a3
    exact ⟨r, r2, st2, ms2, e1, e2, e3⟩),
    (fun a1 a2 => by
    obtain ⟨r, r2, st2, ms2, e1, e2, -, e3⟩ := op_key h a1 a2
    exact ⟨r, r2, st2, ms2, e1, e2, e3⟩),
    (fun a1 a2 a3 => op_mended0 h a1 a2 a3),
    (fun a1 a2 a3 a4 => op_short0 h a1 a2 a3 a4),
    (fun a1 => by
    obtain ⟨r, r2, st2, ms2, e1, e2, -, e3⟩ := op_both h a1
    exact ⟨r, r2, st2, ms2, e1, e2, e3⟩),
    (fun a1 => by
    obtain ⟨r, r2, st2, ms2, e1, e2, -, e3⟩ := op_parting h a1
    exact ⟨r, r2, st2, ms2, e1, e2, e3⟩),
    (fun a1 a2 a3 => op_forged h a1 a2 a3),
    (fun a1 a2 a3 a4 => op_burnt0 h a1 a2 a3 a4),
    (fun a1 a2 => by
    obtain ⟨r, r2, st2, ms2, e1, e2, -, e3⟩ := op_rate h a1 a2
    exact ⟨r, r2, st2, ms2, e1, e2, e3⟩),
    (fun a1 => by
    obtain ⟨r, r2, st2, ms2, e1, e2, -, e3⟩ := op_keep h a1
    exact ⟨r, r2, st2, ms2, e1, e2, e3⟩),
    (fun a1 => by
    obtain ⟨r, r2, st2, ms2, e1, e2, -, e3⟩ := op_back h a1
    exact ⟨r, r2, st2, ms2, e1, e2, e3⟩),
    (fun a1 => by
    obtain ⟨r, r2, st2, ms2, e1, e2, -, e3⟩ := op_count h a1
    exact ⟨r, r2, st2, ms2, e1, e2, e3⟩),
    (fun (_ : Unit) => by
    obtain ⟨r, r2, st2, ms2, e1, e2, -, e3⟩ := op_trace h ()
    exact ⟨r, r2, st2, ms2, e1, e2, e3⟩)⟩
theorem law_Jd {L : Nat} (_ : L ≤ 2560) : ∀ (j : Nat) (st : SX) (ms : SM), j + 5 ≤ L → (fun (_ : Nat) (st : SX) (ms : SM) => Inv st ms) j st ms → (fun (_ : Nat) (st : SX) (ms : SM) => Inv st ms) (j + 5) st ms := fun j st ms hj hJ => hJ

set_option maxHeartbeats 4000000 in
set_option maxRecDepth 100000 in
theorem law_start {p : Program} {l : Launch} {e : Env} {s : State} {m : MethodId} {below : List Frame} {meth : Method} {c : Code} {D : gG} {cB cI cJ cZ : ClassId} {b L : Nat} {xs : Nat → Int32} (cx : gX p s m #[Value.ref b] meth c cL_law 4 RL D (tyL cB cI cJ cZ) (fun q => s.heap.size ≤ q)) (hX : va_X b L xs s s.heap) (hbl : b < s.heap.size) (hr : meth.sig.returnType = ret) (hL : L ≤ 2560) : gW p l e room_1 s m #[Value.ref b] below meth c D (fun q => s.heap.size ≤ q) 4 (lw_Z below #[Value.ref b] s) 0 0 [] [(0, .ref b)] 0 [] := by
  refine a_new (C := RX11) (T := TX11) (N := 12) (ci := 9) (ty := tyX11) (fs := [.null, .null, .null, .null, .null, .null, .null, .null, .null, .null, .int 0, .long 0]) (cells' := 1) (slots' := 12) cx inT11 tyX11_ok rfl q1_21 q1_22 q1_1 df_X11 rfl rfl ⟨Nat.le_of_ble_eq_true rfl, Nat.le_of_ble_eq_true rfl⟩ dL_law_0 (fun q1 => ?_)
  refine g_dup cx dL_law_3 rfl ?_
  refine a_ctor (mc := 64) (ms := 1290) (wr := []) (ws' := fun u1 => W_X11_init cB cI cJ cZ u1) (cells' := 65) (slots' := 1302) cx ck_RL_9 (c_X11_init l D cB cI cJ cZ q1) rfl 0 rfl [] rfl rfl (by decide) (fun _ => rfl) rfl (Nat.le_of_ble_eq_true rfl) ⟨rfl, rfl, Nat.le_of_ble_eq_true rfl, Nat.le_of_ble_eq_true rfl⟩ rfl rfl ⟨Nat.le_of_ble_eq_true rfl, Nat.le_of_ble_eq_true rfl⟩ dL_law_4 (fun u1 hu1 => ?_)
  subst hu1
  refine g_asn (L' := [(1, .ref (u1 0 0)), (0, .ref b)]) cx dL_law_7 (Nat.le_of_ble_eq_true rfl) rfl ?_
  refine a_new (C := RX12) (T := TX12) (N := 38) (ci := 10) (ty := tyX12) (fs := [.int 0, .long 0, .null, .int 0, .int 0, .int 0, .int 0, .int 0, .int 0, .null, .null, .null, .null, .int 0, .int 0, .int 0, .int 0, .int 0, .int 0, .int 0, .null, .null, .null, .null, .null, .int 0, .null, .null, .null, .null, .null, .null, .null, .null, .null, .null, .null, .null]) (cells' := 66) (slots' := 1340) cx inT12 tyX12_ok rfl q4_217 q4_218 q1_12 df_X12 rfl rfl ⟨Nat.le_of_ble_eq_true rfl, Nat.le_of_ble_eq_true rfl⟩ dL_law_8 (fun q2 => ?_)
  refine g_dup cx dL_law_11 rfl ?_
  refine a_ctor (mc := 22) (ms := 984) (wr := W_X11_init cB cI cJ cZ u1) (ws' := fun u2 => (wL cB cI cJ cZ u1 SX0 .null (u2 0) iM).flatten) (cells' := 88) (slots' := 2324) cx ck_RL_12 (c_X12_init l D cB cI cJ cZ q2) rfl 65 rfl [0, 1, 2, 3, 4, 5, 6, 7, 8, 9, 10, 11, 12, 13, 14, 15, 16, 17, 18, 19, 20, 21, 22, 23, 24, 25, 26, 27, 28, 29, 30, 31, 32, 33, 34, 35, 36, 37, 38, 39, 40, 41, 42, 43, 44, 45, 46, 47, 48, 49, 50, 51, 52, 53, 54, 55, 56, 57, 58, 59, 60, 61, 62, 63, 64] rfl rfl (by decide) (fun _ => rfl) rfl (Nat.le_of_ble_eq_true rfl) ⟨rfl, rfl, Nat.le_of_ble_eq_true rfl, Nat.le_of_ble_eq_true rfl⟩ rfl rfl ⟨Nat.le_of_ble_eq_true rfl, Nat.le_of_ble_eq_true rfl⟩ dL_law_12 (fun u2 hu2 => ?_)
  subst hu2
  refine g_asn (L' := [(2, .ref (u2 0 0)), (1, .ref (u1 0 0)), (0, .ref b)]) cx dL_law_15 (Nat.le_of_ble_eq_true rfl) rfl ?_
  refine g_ic cx dL_law_16 k_ic0 ?_
  refine g_is0 (L' := [(3, .int 0), (2, .ref (u2 0 0)), (1, .ref (u1 0 0)), (0, .ref b)]) cx dL_law_17 (Nat.le_of_ble_eq_true rfl) rfl ?_
  refine g_sub [3, 2, 1, 0] rfl ?_
  exact law_loop cx hX hbl hr hL (fun _ st ms => Inv st ms) (law_Js hL) (law_Jd hL) (L + 6) 0 u1 SX0 .null (u2 0) iM law_J0 (by omega) (by omega)
set_option maxHeartbeats 4000000 in
set_option maxRecDepth 100000 in
theorem whole_start {p : Program} {e : Env} {s : State} {m : MethodId} {below : List Frame} {meth : Method} {c : Code} (l : Launch) (hflags : l.flags = flags0) {b L : Nat} {xs : Nat → Int32} (hL : L ≤ 2560) (C0 : lw_At p s m meth c b L xs) : W p l e room_1 s m #[Value.ref b] below meth c s.heap [] 0 0 (lw_Z below #[Value.ref b] s) (entryFrame m ([Value.ref b] : List Value).toArray 4) := by
  obtain ⟨hx, hb, hr, hml, hown, hts, hX, hbl, hlocks, hgv⟩ := id C0
  have hT : ∀ w ∈ TT, w.before #[Value.ref b] s = true := fun w h => hts w (tt_tbl w h)
  obtain ⟨c0, iS0, hKn0⟩ := u_known (C := RX0) (T := TX0) (N := 6) (n := 6) hT inT0 (hT _ q1_128)
  obtain ⟨c1, iS1, hKn1⟩ := u_known (C := RX1) (T := TX1) (N := 3) (n := 3) hT inT1 (hT _ q1_180)
  obtain ⟨c2, iS2, hKn2⟩ := u_known (C := RX2) (T := TX2) (N := 2) (n := 2) hT inT2 (hT _ q1_114)
  obtain ⟨c3, iS3, hKn3⟩ := u_known (C := RX3) (T := TX3) (N := 2) (n := 2) hT inT3 (hT _ q1_101)
  obtain ⟨c4, iS4, hKn4⟩ := u_known (C := RX4) (T := TX4) (N := 5) (n := 5) hT inT4 (hT _ q1_76)
  obtain ⟨c5, iS5, hKn5⟩ := u_known (C := RX7) (T := TX7) (N := 5) (n := 5) hT inT7 (hT _ q1_155)
  obtain ⟨c6, iS6, hKn6⟩ := u_known (C := RX8) (T := TX8) (N := 5) (n := 5) hT inT8 (hT _ q1_30)
  obtain ⟨c7, iS7, hKn7⟩ := u_known (C := RX9) (T := TX9) (N := 5) (n := 5) hT inT9 (hT _ q1_53)
  obtain ⟨c8, iS8, hKn8⟩ := u_known (C := RX10) (T := TX10) (N := 4) (n := 4) hT inT10 (hT _ q1_161)
  obtain ⟨c9, iS9, hKn9⟩ := u_known (C := RX11) (T := TX11) (N := 12) (n := 12) hT inT11 (hT _ q1_22)
  obtain ⟨c10, iS10, hKn10⟩ := u_known (C := RX12) (T := TX12) (N := 38) (n := 38) hT inT12 (hT _ q4_218)
  obtain ⟨dC, dI, hKc⟩ : ∃ (dC : Nat → ClassId) (dI : Nat → Nat → Nat), ∀ (k : Nat) (q : vw_C), vwCl[k]? = some q → u_Kn s q.1 q.2.1 q.2.2 (dC k) (dI k) := by
    refine ⟨fun k => match k with | 0 => c0 | 1 => c1 | 2 => c2 | 3 => c3 | 4 => c4 | 5 => c5 | 6 => c6 | 7 => c7 | 8 => c8 | 9 => c9 | _ => c10, fun k => match k with | 0 => iS0 | 1 => iS1 | 2 => iS2 | 3 => iS3 | 4 => iS4 | 5 => iS5 | 6 => iS6 | 7 => iS7 | 8 => iS8 | 9 => iS9 | _ => iS10, ?_⟩
    intro k q hq
    match k, hq with
    | 0, hq => cases hq; exact hKn0
    | 1, hq => cases hq; exact hKn1
    | 2, hq => cases hq; exact hKn2
    | 3, hq => cases hq; exact hKn3
    | 4, hq => cases hq; exact hKn4
    | 5, hq => cases hq; exact hKn5
    | 6, hq => cases hq; exact hKn6
    | 7, hq => cases hq; exact hKn7
    | 8, hq => cases hq; exact hKn8
    | 9, hq => cases hq; exact hKn9
    | 10, hq => cases hq; exact hKn10
    | k + 11, hq => simp [vwCl] at hq
  obtain ⟨cB, hB1, hB2⟩ := arr_known (hT _ q1_51)
  obtain ⟨cI, hI1, hI2⟩ := arr_known (hT _ q1_74)
  obtain ⟨cJ, hJ1, hJ2⟩ := arr_known (hT _ q1_126)
  obtain ⟨cZ, hZ1, hZ2⟩ := arr_known (hT _ q5_98)
  have hK : va_K (dC, dI) vwCl (tyL cB cI cJ cZ) s := ⟨hKc, fun k q h => by
    match k, h with
    | 0, h => cases h; exact ⟨hB1, hB2⟩
    | 1, h => cases h; exact ⟨hI1, hI2⟩
    | 2, h => cases h; exact ⟨hJ1, hJ2⟩
    | 3, h => cases h; exact ⟨hZ1, hZ2⟩
    | k + 4, h => simp at h⟩
  have hn := flat_of_before _ hgv
  have hA0 : ∀ a : Nat, a < s.heap.size → ¬ (fun q : Nat => s.heap.size ≤ q) a := fun a h => Nat.not_le.mpr h
  obtain ⟨adK, adV, hS0, hS1⟩ := vk_Sof (args := #[Value.ref b]) (s := s) (N := 5) (tm := (fun i => match i with | 0 => Term.string "RhymeLaw$Reader" 39 | 1 => Term.string "RhymeLaw$Reader" 53 | 2 => Term.string "RhymeLaw$Reader" 63 | 3 => Term.string "RhymeLaw$Reader" 68 | _ => Term.string "RhymeLaw$Reader" 78)) (len := sLen) (byt := sByt) (A := fun q : Nat => s.heap.size ≤ q) (fun i hi => str_len hi)
    (fun i hi => by match i, hi with | 0, _ => exact hn _ (by decide +kernel) | 1, _ => exact hn _ (by decide +kernel) | 2, _ => exact hn _ (by decide +kernel) | 3, _ => exact hn _ (by decide +kernel) | 4, _ => exact hn _ (by decide +kernel) | n + 5, h => omega)
    (fun i hi => by match i, hi with | 0, _ => exact hn _ (by decide +kernel) | 1, _ => exact hn _ (by decide +kernel) | 2, _ => exact hn _ (by decide +kernel) | 3, _ => exact hn _ (by decide +kernel) | 4, _ => exact hn _ (by decide +kernel) | n + 5, h => omega)
    (fun i hi => by match i, hi with | 0, _ => exact hn _ (by decide +kernel) | 1, _ => exact hn _ (by decide +kernel) | 2, _ => exact hn _ (by decide +kernel) | 3, _ => exact hn _ (by decide +kernel) | 4, _ => exact hn _ (by decide +kernel) | n + 5, h => omega)
    (fun i hi => by match i, hi with | 0, _ => exact hn _ (by decide +kernel) | 1, _ => exact hn _ (by decide +kernel) | 2, _ => exact hn _ (by decide +kernel) | 3, _ => exact hn _ (by decide +kernel) | 4, _ => exact hn _ (by decide +kernel) | n + 5, h => omega)
    (fun i hi j hj => by match i, hi with | 0, _ => (match j, hj with | 0, _ => exact hn _ (by decide +kernel) | 1, _ => exact hn _ (by decide +kernel) | 2, _ => exact hn _ (by decide +kernel) | 3, _ => exact hn _ (by decide +kernel) | n + 4, h => exact absurd h (by show ¬ n + 4 < 4; omega)) | 1, _ => (match j, hj with | 0, _ => exact hn _ (by decide +kernel) | 1, _ => exact hn _ (by decide +kernel) | 2, _ => exact hn _ (by decide +kernel) | 3, _ => exact hn _ (by decide +kernel) | n + 4, h => exact absurd h (by show ¬ n + 4 < 4; omega)) | 2, _ => (match j, hj with | 0, _ => exact hn _ (by decide +kernel) | 1, _ => exact hn _ (by decide +kernel) | 2, _ => exact hn _ (by decide +kernel) | 3, _ => exact hn _ (by decide +kernel) | 4, _ => exact hn _ (by decide +kernel) | n + 5, h => exact absurd h (by show ¬ n + 5 < 5; omega)) | 3, _ => (match j, hj with | 0, _ => exact hn _ (by decide +kernel) | 1, _ => exact hn _ (by decide +kernel) | 2, _ => exact hn _ (by decide +kernel) | 3, _ => exact hn _ (by decide +kernel) | n + 4, h => exact absurd h (by show ¬ n + 4 < 4; omega)) | 4, _ => (match j, hj with | 0, _ => exact hn _ (by decide +kernel) | 1, _ => exact hn _ (by decide +kernel) | 2, _ => exact hn _ (by decide +kernel) | 3, _ => exact hn _ (by decide +kernel) | 4, _ => exact hn _ (by decide +kernel) | n + 5, h => exact absurd h (by show ¬ n + 5 < 5; omega)) | n + 5, h => omega)
    (fun i j hi hj hij => by match i, hi, j, hj with | 0, _, 0, _ => exact absurd rfl hij | 0, _, 1, _ => exact Or.inl (hn _ (by decide +kernel)) | 0, _, 2, _ => exact Or.inl (hn _ (by decide +kernel)) | 0, _, 3, _ => exact Or.inl (hn _ (by decide +kernel)) | 0, _, 4, _ => exact Or.inl (hn _ (by decide +kernel)) | 1, _, 0, _ => exact Or.inr (hn _ (by decide +kernel)) | 1, _, 1, _ => exact absurd rfl hij | 1, _, 2, _ => exact Or.inl (hn _ (by decide +kernel)) | 1, _, 3, _ => exact Or.inl (hn _ (by decide +kernel)) | 1, _, 4, _ => exact Or.inl (hn _ (by decide +kernel)) | 2, _, 0, _ => exact Or.inr (hn _ (by decide +kernel)) | 2, _, 1, _ => exact Or.inr (hn _ (by decide +kernel)) | 2, _, 2, _ => exact absurd rfl hij | 2, _, 3, _ => exact Or.inl (hn _ (by decide +kernel)) | 2, _, 4, _ => exact Or.inl (hn _ (by decide +kernel)) | 3, _, 0, _ => exact Or.inr (hn _ (by decide +kernel)) | 3, _, 1, _ => exact Or.inr (hn _ (by decide +kernel)) | 3, _, 2, _ => exact Or.inr (hn _ (by decide +kernel)) | 3, _, 3, _ => exact absurd rfl hij | 3, _, 4, _ => exact Or.inl (hn _ (by decide +kernel)) | 4, _, 0, _ => exact Or.inr (hn _ (by decide +kernel)) | 4, _, 1, _ => exact Or.inr (hn _ (by decide +kernel)) | 4, _, 2, _ => exact Or.inr (hn _ (by decide +kernel)) | 4, _, 3, _ => exact Or.inr (hn _ (by decide +kernel)) | 4, _, 4, _ => exact absurd rfl hij | n + 5, h, _, _ => omega | _, _, n + 5, h => omega) hA0
  have hF : SF ((dC, dI), adK, adV) (fun q : Nat => s.heap.size ≤ q) s s.heap := ⟨hS0, ⟨vk_R.of (hts (.stringRef "RhymeLaw$Reader" 39 "word") (by exact List.mem_append_right _ (List.mem_append_right _ (List.mem_append_left _ (List.mem_of_getElem? (i := 98) (by decide +kernel)))))) (hS1 0 (by decide)), vk_R.of (hts (.stringRef "RhymeLaw$Reader" 53 "form") (by exact List.mem_append_right _ (List.mem_append_right _ (List.mem_append_left _ (List.mem_of_getElem? (i := 180) (by decide +kernel)))))) (hS1 1 (by decide)), vk_R.of (hts (.stringRef "RhymeLaw$Reader" 63 "metre") (by exact List.mem_append_right _ (List.mem_append_right _ (List.mem_append_left _ (List.mem_of_getElem? (i := 209) (by decide +kernel)))))) (hS1 2 (by decide)), vk_R.of (hts (.stringRef "RhymeLaw$Reader" 68 "line") (by exact List.mem_append_right _ (List.mem_append_right _ (List.mem_append_left _ (List.mem_of_getElem? (i := 218) (by decide +kernel)))))) (hS1 3 (by decide)), vk_R.of (hts (.stringRef "RhymeLaw$Reader" 78 "stock") (by exact List.mem_append_right _ (List.mem_append_right _ (List.mem_append_right _ (List.mem_append_left _ (List.mem_of_getElem? (i := 17) (by decide +kernel))))))) (hS1 4 (by decide))⟩,
    va_Zof (args := #[Value.ref b]) (hts (.laysStatic "java/lang/String" "COMPACT_STRINGS" "Z") (by exact List.mem_append_right _ (List.mem_append_right _ (List.mem_append_left _ (List.mem_of_getElem? (i := 112) (by decide +kernel)))))) (hT _ q1_15) (va_eqt (hn _ (by decide +kernel))) hA0,
    va_Zqof (args := #[Value.ref b]) (hts (.laysStatic "jdk/internal/util/Preconditions" "SIOOBE_FORMATTER" "Ljava/util/function/BiFunction;") (by exact List.mem_append_right _ (List.mem_append_right _ (List.mem_append_left _ (List.mem_of_getElem? (i := 128) (by decide +kernel)))))) (hT _ q1_17) (hn _ (by decide +kernel)) hA0⟩
  have cx : gX p s m #[Value.ref b] meth c cL_law 4 RL ((dC, dI), adK, adV) (tyL cB cI cJ cZ) (fun q => s.heap.size ≤ q) := ⟨hx, hb, hml, hown, hT, hK, fun _ h => h, hlocks, hF⟩
  rw [lg_entry_eq]
  exact law_start cx hX hbl hr hL ⟨Nat.zero_le _, Nat.zero_le _⟩ s.heap [] _ (fun k q h => by simp at h) ⟨fun i j p q h => by simp at h, fun k q h => by simp at h⟩ va_S.rf (lv_entry [.ref b] (Nat.le_of_ble_eq_true rfl))
