theorem dX12_form_0 : decode cX12_form 0 = .ok (.aload_n 0, 1) := by decide +kernel
theorem dX12_form_1 : decode cX12_form 1 = .ok (.iconst 0, 1) := by decide +kernel
theorem dX12_form_2 : decode cX12_form 2 = .ok (.putfield 78, 3) := by decide +kernel
theorem dX12_form_5 : decode cX12_form 5 = .ok (.aload_n 0, 1) := by decide +kernel
theorem dX12_form_6 : decode cX12_form 6 = .ok (.iload_n 1, 1) := by decide +kernel
theorem dX12_form_7 : decode cX12_form 7 = .ok (.iconst 0, 1) := by decide +kernel
theorem dX12_form_8 : decode cX12_form 8 = .ok (.invokevirtual 178, 3) := by decide +kernel
theorem dX12_form_11 : decode cX12_form 11 = .ok (.ifCond .eq 22, 3) := by decide +kernel
theorem dX12_form_14 : decode cX12_form 14 = .ok (.iload_n 2, 1) := by decide +kernel
theorem dX12_form_15 : decode cX12_form 15 = .ok (.iconst 0, 1) := by decide +kernel
theorem dX12_form_16 : decode cX12_form 16 = .ok (.bipush 99, 2) := by decide +kernel
theorem dX12_form_18 : decode cX12_form 18 = .ok (.invokestatic 82, 3) := by decide +kernel
theorem dX12_form_21 : decode cX12_form 21 = .ok (.ifCond .eq 12, 3) := by decide +kernel
theorem dX12_form_24 : decode cX12_form 24 = .ok (.aload_n 0, 1) := by decide +kernel
theorem dX12_form_25 : decode cX12_form 25 = .ok (.iload_n 1, 1) := by decide +kernel
theorem dX12_form_26 : decode cX12_form 26 = .ok (.iload_n 2, 1) := by decide +kernel
theorem dX12_form_27 : decode cX12_form 27 = .ok (.invokevirtual 182, 3) := by decide +kernel
theorem dX12_form_30 : decode cX12_form 30 = .ok (.goto 4, 3) := by decide +kernel
theorem dX12_form_33 : decode cX12_form 33 = .ok (.iconst (-1), 1) := by decide +kernel
theorem dX12_form_34 : decode cX12_form 34 = .ok (.ireturn, 1) := by decide +kernel
theorem q0_41 : Cond.selects RX12 yX12_isForm yX12_isForm ∈ TT := tq0 41 rfl rfl
theorem q0_42 : Cond.selects RX12 yX12_letterOf yX12_letterOf ∈ TT := tq0 42 rfl rfl
theorem q5_179 : Cond.methodLink RX12 178 yX12_isForm ∈ TT := tq5 179 rfl rfl
theorem q5_181 : Cond.instanceMethod yX12_isForm ∈ TT := tq5 181 rfl rfl
theorem q5_182 : Cond.code yX12_isForm cX12_isForm 3 (some .boolean) ∈ TT := tq5 182 rfl rfl
theorem q5_183 : Cond.methodLink RX12 182 yX12_letterOf ∈ TT := tq5 183 rfl rfl
theorem q5_185 : Cond.instanceMethod yX12_letterOf ∈ TT := tq5 185 rfl rfl
theorem q5_186 : Cond.code yX12_letterOf cX12_letterOf 3 (some .int) ∈ TT := tq5 186 rfl rfl
theorem lk_RX12_178 : vlk RX12 178 yX12_isForm cX12_isForm 3 (some .boolean) 2 := ⟨List.forall_mem_cons.mpr ⟨q5_179, List.forall_mem_cons.mpr ⟨q5_181, List.forall_mem_cons.mpr ⟨q0_41, List.forall_mem_cons.mpr ⟨q1_12, fun _ h => absurd h List.not_mem_nil⟩⟩⟩⟩, q5_182, by decide, by decide, by decide +kernel⟩
theorem lk_RX12_182 : vlk RX12 182 yX12_letterOf cX12_letterOf 3 (some .int) 2 := ⟨List.forall_mem_cons.mpr ⟨q5_183, List.forall_mem_cons.mpr ⟨q5_185, List.forall_mem_cons.mpr ⟨q0_42, List.forall_mem_cons.mpr ⟨q1_12, fun _ h => absurd h List.not_mem_nil⟩⟩⟩⟩, q5_186, by decide, by decide, by decide +kernel⟩
def F_X12_form (s_o : SM) (x1 : Int32) (x2 : Int32) : Option (Int32 × SM) := nm (mIs s_o 0 0) fun s_o_1 => (F_X12_isForm s_o_1 x1 0).bind fun q_2 => (if q_2 = 0 then some ((-1), s_o_1) else (F_X12_in x2 0 99).bind fun q_3 => (if q_3 = 0 then some ((-1), s_o_1) else (F_X12_letterOf s_o_1 x1 x2).bind fun q_4 => some (q_4, s_o_1)))

abbrev rm_X12_form : Room := { frames := 2, cells := 0, slots := 0, locals := 44 }
set_option maxHeartbeats 4000000 in
set_option maxRecDepth 100000 in
theorem c_X12_form (l : Launch) (D : gG) (cB cI cJ cZ : ClassId) (o : Nat → Nat) (s_o : SM) (x1 : Int32) (x2 : Int32) (r : Int32 × SM) (hf : F_X12_form s_o x1 x2 = some r) : gM l D (tyL cB cI cJ cZ) yX12_form cX12_form 3 (some .int) rm_X12_form [.ref (o 0), .int x1, .int x2] (wX12 o cB cI cJ cZ s_o) (some (.int r.1)) (wX12 o cB cI cJ cZ r.2) := by
  refine met_of (by decide) (Nat.le_of_ble_eq_true rfl) ?_
  intro p e s m args below meth c A cx hr hA
  show gW p l e rm_X12_form s m args below meth c D A 3 _ 0 0 _ [(0, .ref (o 0)), (1, .int x1), (2, .int x2)] 0 []
  rw [F_X12_form] at hf
  refine g_aln cx 0 dX12_form_0 rfl ?_
  refine g_ic cx dX12_form_1 k_ic0 ?_
  refine mp_thrown cx hf dX12_form_2 (fun s_o_1 hf => ?_)
  refine g_aln cx 0 dX12_form_5 rfl ?_
  refine g_iln cx 1 dX12_form_6 rfl ?_
  refine g_ic cx dX12_form_7 k_ic0 ?_
  refine ob hf (fun q_2 hq_2 hf => ?_)
  refine g_callVFi cx lk_RX12_178 (c_X12_isForm l D cB cI cJ cZ o s_o_1 x1 0 q_2 hq_2) rfl (ci := 10) (q1 := 0) rfl rfl rfl (Nat.le_of_ble_eq_true rfl) ⟨rfl, rfl, Nat.le_of_ble_eq_true rfl, Nat.le_of_ble_eq_true rfl⟩ dX12_form_8 ?_
  refine g_if_eq (tgt := 33) cx hf dX12_form_11 rfl (fun hf => ?_) (fun hf => ?_)
  · refine g_ic cx dX12_form_33 k_icm1 ?_
    exact g_iret (ovf := fun (r : Int32 × SM) => (some (.int r.1))) (wf := fun (r : Int32 × SM) => (wX12 o cB cI cJ cZ r.2)) cx hA hr hf rfl rfl dX12_form_34
  · refine g_iln cx 2 dX12_form_14 rfl ?_
    refine g_ic cx dX12_form_15 k_ic0 ?_
    refine g_bp cx dX12_form_16 k_bp99 ?_
    refine ob hf (fun q_3 hq_3 hf => ?_)
    refine g_callSiR cx lk_RX12_82 (c_X12_in l D cB cI cJ cZ x2 0 99 q_3 hq_3) rfl [] rfl rfl rfl (Nat.le_of_ble_eq_true rfl) ⟨rfl, rfl, Nat.le_of_ble_eq_true rfl, Nat.le_of_ble_eq_true rfl⟩ dX12_form_18 ?_
    refine g_if_eq (tgt := 33) cx hf dX12_form_21 rfl (fun hf => ?_) (fun hf => ?_)
    · refine g_ic cx dX12_form_33 k_icm1 ?_
      exact g_iret (ovf := fun (r : Int32 × SM) => (some (.int r.1))) (wf := fun (r : Int32 × SM) => (wX12 o cB cI cJ cZ r.2)) cx hA hr hf rfl rfl dX12_form_34
    · refine g_aln cx 0 dX12_form_24 rfl ?_
      refine g_iln cx 1 dX12_form_25 rfl ?_
      refine g_iln cx 2 dX12_form_26 rfl ?_
      refine ob hf (fun q_4 hq_4 hf => ?_)
      refine g_callVFi cx lk_RX12_182 (c_X12_letterOf l D cB cI cJ cZ o s_o_1 x1 x2 q_4 hq_4) rfl (ci := 10) (q1 := 0) rfl rfl rfl (Nat.le_of_ble_eq_true rfl) ⟨rfl, rfl, Nat.le_of_ble_eq_true rfl, Nat.le_of_ble_eq_true rfl⟩ dX12_form_27 ?_
      refine g_goto (tgt := 34) cx dX12_form_30 rfl ?_
      exact g_iret (ovf := fun (r : Int32 × SM) => (some (.int r.1))) (wf := fun (r : Int32 × SM) => (wX12 o cB cI cJ cZ r.2)) cx hA hr hf rfl rfl dX12_form_34
theorem dX12_metre_0 : decode cX12_metre 0 = .ok (.aload_n 0, 1) := by decide +kernel
theorem dX12_metre_1 : decode cX12_metre 1 = .ok (.iconst 0, 1) := by decide +kernel
theorem dX12_metre_2 : decode cX12_metre 2 = .ok (.putfield 78, 3) := by decide +kernel
theorem dX12_metre_5 : decode cX12_metre 5 = .ok (.iload_n 1, 1) := by decide +kernel
theorem dX12_metre_6 : decode cX12_metre 6 = .ok (.iconst 0, 1) := by decide +kernel
theorem dX12_metre_7 : decode cX12_metre 7 = .ok (.bipush 7, 2) := by decide +kernel
theorem dX12_metre_9 : decode cX12_metre 9 = .ok (.invokestatic 82, 3) := by decide +kernel
theorem dX12_metre_12 : decode cX12_metre 12 = .ok (.ifCond .eq 13, 3) := by decide +kernel
theorem dX12_metre_15 : decode cX12_metre 15 = .ok (.iload_n 2, 1) := by decide +kernel
theorem dX12_metre_16 : decode cX12_metre 16 = .ok (.iconst 0, 1) := by decide +kernel
theorem dX12_metre_17 : decode cX12_metre 17 = .ok (.bipush 20, 2) := by decide +kernel
theorem dX12_metre_19 : decode cX12_metre 19 = .ok (.invokestatic 82, 3) := by decide +kernel
theorem dX12_metre_22 : decode cX12_metre 22 = .ok (.ifCond .ne 5, 3) := by decide +kernel
theorem dX12_metre_25 : decode cX12_metre 25 = .ok (.iconst (-1), 1) := by decide +kernel
theorem dX12_metre_26 : decode cX12_metre 26 = .ok (.ireturn, 1) := by decide +kernel
theorem dX12_metre_27 : decode cX12_metre 27 = .ok (.aload_n 0, 1) := by decide +kernel
theorem dX12_metre_28 : decode cX12_metre 28 = .ok (.getfield 19, 3) := by decide +kernel
theorem dX12_metre_31 : decode cX12_metre 31 = .ok (.iload_n 1, 1) := by decide +kernel
theorem dX12_metre_32 : decode cX12_metre 32 = .ok (.iaload, 1) := by decide +kernel
theorem dX12_metre_33 : decode cX12_metre 33 = .ok (.istore_n 3, 1) := by decide +kernel
theorem dX12_metre_34 : decode cX12_metre 34 = .ok (.aload_n 0, 1) := by decide +kernel
theorem dX12_metre_35 : decode cX12_metre 35 = .ok (.getfield 19, 3) := by decide +kernel
theorem dX12_metre_38 : decode cX12_metre 38 = .ok (.iload_n 1, 1) := by decide +kernel
theorem dX12_metre_39 : decode cX12_metre 39 = .ok (.iload_n 2, 1) := by decide +kernel
theorem dX12_metre_40 : decode cX12_metre 40 = .ok (.iastore, 1) := by decide +kernel
theorem dX12_metre_41 : decode cX12_metre 41 = .ok (.iload_n 3, 1) := by decide +kernel
theorem dX12_metre_42 : decode cX12_metre 42 = .ok (.ireturn, 1) := by decide +kernel
theorem k_bp7 : (Int8.ofInt (7)).toInt32 = 7 := by decide


def F_X12_metre (s_o : SM) (x1 : Int32) (x2 : Int32) : Option (Int32 × SM) := nm (mIs s_o 0 0) fun s_o_1 => (F_X12_in x1 0 7).bind fun q_2 => (if q_2 = 0 then some ((-1), s_o_1) else (F_X12_in x2 0 20).bind fun q_3 => (if q_3 = 0 then some ((-1), s_o_1) else (aget 16 (mA s_o_1 11) x1).bind fun e_4 => nm e_4 fun v3_5 => (aset 16 (mA s_o_1 11) x1 x2).bind fun f_6 => nm (mAs s_o_1 11 f_6) fun s_o_7 => some (v3_5, s_o_7)))

abbrev rm_X12_metre : Room := { frames := 1, cells := 0, slots := 0, locals := 22 }
set_option maxHeartbeats 4000000 in
set_option maxRecDepth 100000 in
theorem c_X12_metre (l : Launch) (D : gG) (cB cI cJ cZ : ClassId) (o : Nat → Nat) (s_o : SM) (x1 : Int32) (x2 : Int32) (r : Int32 × SM) (hf : F_X12_metre s_o x1 x2 = some r) : gM l D (tyL cB cI cJ cZ) yX12_metre cX12_metre 4 (some .int) rm_X12_metre [.ref (o 0), .int x1, .int x2] (wX12 o cB cI cJ cZ s_o) (some (.int r.1)) (wX12 o cB cI cJ cZ r.2) := by
  refine met_of (by decide) (Nat.le_of_ble_eq_true rfl) ?_
  intro p e s m args below meth c A cx hr hA
  show gW p l e rm_X12_metre s m args below meth c D A 4 _ 0 0 _ [(0, .ref (o 0)), (1, .int x1), (2, .int x2)] 0 []
  rw [F_X12_metre] at hf
  refine g_aln cx 0 dX12_metre_0 rfl ?_
  refine g_ic cx dX12_metre_1 k_ic0 ?_
  refine mp_thrown cx hf dX12_metre_2 (fun s_o_1 hf => ?_)
  refine g_iln cx 1 dX12_metre_5 rfl ?_
  refine g_ic cx dX12_metre_6 k_ic0 ?_
  refine g_bp cx dX12_metre_7 k_bp7 ?_
  refine ob hf (fun q_2 hq_2 hf => ?_)
  refine g_callSiR cx lk_RX12_82 (c_X12_in l D cB cI cJ cZ x1 0 7 q_2 hq_2) rfl [] rfl rfl rfl (Nat.le_of_ble_eq_true rfl) ⟨rfl, rfl, Nat.le_of_ble_eq_true rfl, Nat.le_of_ble_eq_true rfl⟩ dX12_metre_9 ?_
  refine g_if_eq (tgt := 25) cx hf dX12_metre_12 rfl (fun hf => ?_) (fun hf => ?_)
  · refine g_ic cx dX12_metre_25 k_icm1 ?_
    exact g_iret (ovf := fun (r : Int32 × SM) => (some (.int r.1))) (wf := fun (r : Int32 × SM) => (wX12 o cB cI cJ cZ r.2)) cx hA hr hf rfl rfl dX12_metre_26
  · refine g_iln cx 2 dX12_metre_15 rfl ?_
    refine g_ic cx dX12_metre_16 k_ic0 ?_
    refine g_bp cx dX12_metre_17 k_bp20 ?_
    refine ob hf (fun q_3 hq_3 hf => ?_)
    refine g_callSiR cx lk_RX12_82 (c_X12_in l D cB cI cJ cZ x2 0 20 q_3 hq_3) rfl [] rfl rfl rfl (Nat.le_of_ble_eq_true rfl) ⟨rfl, rfl, Nat.le_of_ble_eq_true rfl, Nat.le_of_ble_eq_true rfl⟩ dX12_metre_19 ?_
    refine g_if_ne (tgt := 27) cx hf dX12_metre_22 rfl (fun hf => ?_) (fun hf => ?_)
    · refine g_aln cx 0 dX12_metre_27 rfl ?_
      refine mg_metre cx dX12_metre_28 ?_
      refine g_iln cx 1 dX12_metre_31 rfl ?_
      refine ml_metre cx hf dX12_metre_32 (fun e_4 hf => ?_)
      refine g_isn cx (L2 := fun v3_5 => [(3, .int v3_5), (0, .ref (o 0)), (1, .int x1), (2, .int x2)]) hf dX12_metre_33 (Nat.le_of_ble_eq_true rfl) (fun _ => rfl) (fun v3_5 hf => ?_)
      refine g_aln cx 1 dX12_metre_34 rfl ?_
      refine mg_metre cx dX12_metre_35 ?_
      refine g_iln cx 2 dX12_metre_38 rfl ?_
      refine g_iln cx 3 dX12_metre_39 rfl ?_
      refine ms_metre cx hf dX12_metre_40 (fun s_o_7 hf => ?_)
      refine g_iln cx 0 dX12_metre_41 rfl ?_
      exact g_iret (ovf := fun (r : Int32 × SM) => (some (.int r.1))) (wf := fun (r : Int32 × SM) => (wX12 o cB cI cJ cZ r.2)) cx hA hr hf rfl rfl dX12_metre_42
    · refine g_ic cx dX12_metre_25 k_icm1 ?_
      exact g_iret (ovf := fun (r : Int32 × SM) => (some (.int r.1))) (wf := fun (r : Int32 × SM) => (wX12 o cB cI cJ cZ r.2)) cx hA hr hf rfl rfl dX12_metre_26
theorem dX12_line_0 : decode cX12_line 0 = .ok (.aload_n 0, 1) := by decide +kernel
theorem dX12_line_1 : decode cX12_line 1 = .ok (.iconst 0, 1) := by decide +kernel
theorem dX12_line_2 : decode cX12_line 2 = .ok (.putfield 78, 3) := by decide +kernel
theorem dX12_line_5 : decode cX12_line 5 = .ok (.aload_n 0, 1) := by decide +kernel
theorem dX12_line_6 : decode cX12_line 6 = .ok (.iload_n 1, 1) := by decide +kernel
theorem dX12_line_7 : decode cX12_line 7 = .ok (.invokevirtual 185, 3) := by decide +kernel
theorem dX12_line_10 : decode cX12_line 10 = .ok (.ifCond .eq 27, 3) := by decide +kernel
theorem dX12_line_13 : decode cX12_line 13 = .ok (.iload_n 2, 1) := by decide +kernel
theorem dX12_line_14 : decode cX12_line 14 = .ok (.iconst 0, 1) := by decide +kernel
theorem dX12_line_15 : decode cX12_line 15 = .ok (.iconst 2, 1) := by decide +kernel
theorem dX12_line_16 : decode cX12_line 16 = .ok (.invokestatic 82, 3) := by decide +kernel
theorem dX12_line_19 : decode cX12_line 19 = .ok (.ifCond .eq 18, 3) := by decide +kernel
theorem dX12_line_22 : decode cX12_line 22 = .ok (.aload_n 0, 1) := by decide +kernel
theorem dX12_line_23 : decode cX12_line 23 = .ok (.getfield 28, 3) := by decide +kernel
theorem dX12_line_26 : decode cX12_line 26 = .ok (.iconst 1, 1) := by decide +kernel
theorem dX12_line_27 : decode cX12_line 27 = .ok (.iconst 3, 1) := by decide +kernel
theorem dX12_line_28 : decode cX12_line 28 = .ok (.iload_n 1, 1) := by decide +kernel
theorem dX12_line_29 : decode cX12_line 29 = .ok (.imul, 1) := by decide +kernel
theorem dX12_line_30 : decode cX12_line 30 = .ok (.iadd, 1) := by decide +kernel
theorem dX12_line_31 : decode cX12_line 31 = .ok (.iload_n 2, 1) := by decide +kernel
theorem dX12_line_32 : decode cX12_line 32 = .ok (.iadd, 1) := by decide +kernel
theorem dX12_line_33 : decode cX12_line 33 = .ok (.iaload, 1) := by decide +kernel
theorem dX12_line_34 : decode cX12_line 34 = .ok (.goto 4, 3) := by decide +kernel
theorem dX12_line_37 : decode cX12_line 37 = .ok (.iconst (-1), 1) := by decide +kernel
theorem dX12_line_38 : decode cX12_line 38 = .ok (.ireturn, 1) := by decide +kernel
theorem q0_43 : Cond.selects RX12 yX12_isLine yX12_isLine ∈ TT := tq0 43 rfl rfl
theorem q5_195 : Cond.methodLink RX12 185 yX12_isLine ∈ TT := tq5 195 rfl rfl
theorem q5_197 : Cond.instanceMethod yX12_isLine ∈ TT := tq5 197 rfl rfl
theorem q5_198 : Cond.code yX12_isLine cX12_isLine 2 (some .boolean) ∈ TT := tq5 198 rfl rfl
theorem lk_RX12_185 : vlk RX12 185 yX12_isLine cX12_isLine 2 (some .boolean) 1 := ⟨List.forall_mem_cons.mpr ⟨q5_195, List.forall_mem_cons.mpr ⟨q5_197, List.forall_mem_cons.mpr ⟨q0_43, List.forall_mem_cons.mpr ⟨q1_12, fun _ h => absurd h List.not_mem_nil⟩⟩⟩⟩, q5_198, by decide, by decide, by decide +kernel⟩
def F_X12_line (s_o : SM) (x1 : Int32) (x2 : Int32) : Option (Int32 × SM) := nm (mIs s_o 0 0) fun s_o_1 => (F_X12_isLine s_o_1 x1).bind fun q_2 => (if q_2 = 0 then some ((-1), s_o_1) else (F_X12_in x2 0 2).bind fun q_3 => (if q_3 = 0 then some ((-1), s_o_1) else (aget 25 (mA s_o_1 21) ((1 + (3 * x1)) + x2)).bind fun e_4 => some (e_4, s_o_1)))

abbrev rm_X12_line : Room := { frames := 2, cells := 0, slots := 0, locals := 43 }
set_option maxHeartbeats 4000000 in
set_option maxRecDepth 100000 in
theorem c_X12_line (l : Launch) (D : gG) (cB cI cJ cZ : ClassId) (o : Nat → Nat) (s_o : SM) (x1 : Int32) (x2 : Int32) (r : Int32 × SM) (hf : F_X12_line s_o x1 x2 = some r) : gM l D (tyL cB cI cJ cZ) yX12_line cX12_line 3 (some .int) rm_X12_line [.ref (o 0), .int x1, .int x2] (wX12 o cB cI cJ cZ s_o) (some (.int r.1)) (wX12 o cB cI cJ cZ r.2) := by
  refine met_of (by decide) (Nat.le_of_ble_eq_true rfl) ?_
  intro p e s m args below meth c A cx hr hA
  show gW p l e rm_X12_line s m args below meth c D A 3 _ 0 0 _ [(0, .ref (o 0)), (1, .int x1), (2, .int x2)] 0 []
  rw [F_X12_line] at hf
  refine g_aln cx 0 dX12_line_0 rfl ?_
  refine g_ic cx dX12_line_1 k_ic0 ?_
  refine mp_thrown cx hf dX12_line_2 (fun s_o_1 hf => ?_)
  refine g_aln cx 0 dX12_line_5 rfl ?_
  refine g_iln cx 1 dX12_line_6 rfl ?_
  refine ob hf (fun q_2 hq_2 hf => ?_)
  refine g_callVFi cx lk_RX12_185 (c_X12_isLine l D cB cI cJ cZ o s_o_1 x1 q_2 hq_2) rfl (ci := 10) (q1 := 0) rfl rfl rfl (Nat.le_of_ble_eq_true rfl) ⟨rfl, rfl, Nat.le_of_ble_eq_true rfl, Nat.le_of_ble_eq_true rfl⟩ dX12_line_7 ?_
  refine g_if_eq (tgt := 37) cx hf dX12_line_10 rfl (fun hf => ?_) (fun hf => ?_)
  · refine g_ic cx dX12_line_37 k_icm1 ?_
    exact g_iret (ovf := fun (r : Int32 × SM) => (some (.int r.1))) (wf := fun (r : Int32 × SM) => (wX12 o cB cI cJ cZ r.2)) cx hA hr hf rfl rfl dX12_line_38
  · refine g_iln cx 2 dX12_line_13 rfl ?_
    refine g_ic cx dX12_line_14 k_ic0 ?_
    refine g_ic cx dX12_line_15 k_ic2 ?_
    refine ob hf (fun q_3 hq_3 hf => ?_)
    refine g_callSiR cx lk_RX12_82 (c_X12_in l D cB cI cJ cZ x2 0 2 q_3 hq_3) rfl [] rfl rfl rfl (Nat.le_of_ble_eq_true rfl) ⟨rfl, rfl, Nat.le_of_ble_eq_true rfl, Nat.le_of_ble_eq_true rfl⟩ dX12_line_16 ?_
    refine g_if_eq (tgt := 37) cx hf dX12_line_19 rfl (fun hf => ?_) (fun hf => ?_)
    · refine g_ic cx dX12_line_37 k_icm1 ?_
      exact g_iret (ovf := fun (r : Int32 × SM) => (some (.int r.1))) (wf := fun (r : Int32 × SM) => (wX12 o cB cI cJ cZ r.2)) cx hA hr hf rfl rfl dX12_line_38
    · refine g_aln cx 0 dX12_line_22 rfl ?_
      refine mg_s cx dX12_line_23 ?_
      refine g_ic cx dX12_line_26 k_ic1 ?_
      refine g_ic cx dX12_line_27 k_ic3 ?_
      refine g_iln cx 1 dX12_line_28 rfl ?_
      refine g_imul cx dX12_line_29 ?_
      refine g_iadd cx dX12_line_30 ?_
      refine g_iln cx 2 dX12_line_31 rfl ?_
      refine g_iadd cx dX12_line_32 ?_
      refine ml_s cx hf dX12_line_33 (fun e_4 hf => ?_)
      refine g_goto (tgt := 38) cx dX12_line_34 rfl ?_
      exact g_iret (ovf := fun (r : Int32 × SM) => (some (.int r.1))) (wf := fun (r : Int32 × SM) => (wX12 o cB cI cJ cZ r.2)) cx hA hr hf rfl rfl dX12_line_38
theorem dX12_stock_0 : decode cX12_stock 0 = .ok (.aload_n 0, 1) := by decide +kernel
theorem dX12_stock_1 : decode cX12_stock 1 = .ok (.iconst 0, 1) := by decide +kernel
theorem dX12_stock_2 : decode cX12_stock 2 = .ok (.putfield 78, 3) := by decide +kernel
theorem dX12_stock_5 : decode cX12_stock 5 = .ok (.iload_n 1, 1) := by decide +kernel
theorem dX12_stock_6 : decode cX12_stock 6 = .ok (.iconst 0, 1) := by decide +kernel
theorem dX12_stock_7 : decode cX12_stock 7 = .ok (.aload_n 0, 1) := by decide +kernel
theorem dX12_stock_8 : decode cX12_stock 8 = .ok (.getfield 172, 3) := by decide +kernel
theorem dX12_stock_11 : decode cX12_stock 11 = .ok (.iconst 1, 1) := by decide +kernel
theorem dX12_stock_12 : decode cX12_stock 12 = .ok (.isub, 1) := by decide +kernel
theorem dX12_stock_13 : decode cX12_stock 13 = .ok (.invokestatic 82, 3) := by decide +kernel
theorem dX12_stock_16 : decode cX12_stock 16 = .ok (.ifCond .eq 25, 3) := by decide +kernel
theorem dX12_stock_19 : decode cX12_stock 19 = .ok (.iload_n 2, 1) := by decide +kernel
theorem dX12_stock_20 : decode cX12_stock 20 = .ok (.iconst 0, 1) := by decide +kernel
theorem dX12_stock_21 : decode cX12_stock 21 = .ok (.iconst 2, 1) := by decide +kernel
theorem dX12_stock_22 : decode cX12_stock 22 = .ok (.invokestatic 82, 3) := by decide +kernel
theorem dX12_stock_25 : decode cX12_stock 25 = .ok (.ifCond .eq 16, 3) := by decide +kernel
theorem dX12_stock_28 : decode cX12_stock 28 = .ok (.aload_n 0, 1) := by decide +kernel
theorem dX12_stock_29 : decode cX12_stock 29 = .ok (.getfield 22, 3) := by decide +kernel
theorem dX12_stock_32 : decode cX12_stock 32 = .ok (.iconst 3, 1) := by decide +kernel
theorem dX12_stock_33 : decode cX12_stock 33 = .ok (.iload_n 1, 1) := by decide +kernel
theorem dX12_stock_34 : decode cX12_stock 34 = .ok (.imul, 1) := by decide +kernel
theorem dX12_stock_35 : decode cX12_stock 35 = .ok (.iload_n 2, 1) := by decide +kernel
theorem dX12_stock_36 : decode cX12_stock 36 = .ok (.iadd, 1) := by decide +kernel
theorem dX12_stock_37 : decode cX12_stock 37 = .ok (.iaload, 1) := by decide +kernel
theorem dX12_stock_38 : decode cX12_stock 38 = .ok (.goto 4, 3) := by decide +kernel
theorem dX12_stock_41 : decode cX12_stock 41 = .ok (.iconst (-1), 1) := by decide +kernel
theorem dX12_stock_42 : decode cX12_stock 42 = .ok (.ireturn, 1) := by decide +kernel

theorem fg_RX12_172 {p : Program} {l : Launch} {e : Env} {R : Room} {s : State} {m : MethodId} {args : Array Value} {below : List Frame} {meth : Method} {c : Code} {D : gG} {tys : List (ClassId × FieldType)} {A : Nat → Prop} {nL : Nat} {Q : State → Prop} {cells slots : Nat} {cc : ByteArray} {ws : va_W} {L : List (Nat × Value)} {pc : Nat} {stk : List Value} (cx : gX p s m args meth c cc nL RX12 D tys A) {a : Nat} {fs : List Value} {v : Value} (q0 : Nat) (he : ws[q0]? = some (a, .inr (10, fs))) (hv : fs[15]? = some v) (hd : decode cc pc = .ok (.getfield 172, 3)) (kk : gW p l e R s m args below meth c D A nL Q cells slots ws L (pc + 3) (v :: stk)) : gW p l e R s m args below meth c D A nL Q cells slots ws L pc (.ref a :: stk) :=
  g_get cx (C := RX12) (T := TX12) (N := 38) inT12 rfl 15 (Nat.le_of_ble_eq_true rfl) q4_238 rfl q0 he hv hd kk
theorem mg_stocks {p : Program} {l : Launch} {e : Env} {R : Room} {s : State} {m : MethodId} {args : Array Value} {below : List Frame} {meth : Method} {c : Code} {D : gG} {A : Nat → Prop} {nL : Nat} {Q : State → Prop} {cells slots : Nat} {cc : ByteArray} {L : List (Nat × Value)} {pc : Nat} {stk : List Value} {o : Nat → Nat} {cB cI cJ cZ : ClassId} {z : SM} (cx : gX p s m args meth c cc nL RX12 D (tyL cB cI cJ cZ) A) (hd : decode cc pc = .ok (.getfield 172, 3)) (kk : gW p l e R s m args below meth c D A nL Q cells slots (wX12 o cB cI cJ cZ z) L (pc + 3) (.int (mI z 15) :: stk)) : gW p l e R s m args below meth c D A nL Q cells slots (wX12 o cB cI cJ cZ z) L pc (.ref (o 0) :: stk) :=
  fg_RX12_172 cx 0 rfl rfl hd kk
def F_X12_stock (s_o : SM) (x1 : Int32) (x2 : Int32) : Option (Int32 × SM) := nm (mIs s_o 0 0) fun s_o_1 => (F_X12_in x1 0 ((mI s_o_1 15) - 1)).bind fun q_2 => (if q_2 = 0 then some ((-1), s_o_1) else (F_X12_in x2 0 2).bind fun q_3 => (if q_3 = 0 then some ((-1), s_o_1) else (aget 36 (mA s_o_1 12) ((3 * x1) + x2)).bind fun e_4 => some (e_4, s_o_1)))

abbrev rm_X12_stock : Room := { frames := 1, cells := 0, slots := 0, locals := 22 }
set_option maxHeartbeats 4000000 in
set_option maxRecDepth 100000 in
theorem c_X12_stock (l : Launch) (D : gG) (cB cI cJ cZ : ClassId) (o : Nat → Nat) (s_o : SM) (x1 : Int32) (x2 : Int32) (r : Int32 × SM) (hf : F_X12_stock s_o x1 x2 = some r) : gM l D (tyL cB cI cJ cZ) yX12_stock cX12_stock 3 (some .int) rm_X12_stock [.ref (o 0), .int x1, .int x2] (wX12 o cB cI cJ cZ s_o) (some (.int r.1)) (wX12 o cB cI cJ cZ r.2) := by
  refine met_of (by decide) (Nat.le_of_ble_eq_true rfl) ?_
  intro p e s m args below meth c A cx hr hA
  show gW p l e rm_X12_stock s m args below meth c D A 3 _ 0 0 _ [(0, .ref (o 0)), (1, .int x1), (2, .int x2)] 0 []
  rw [F_X12_stock] at hf
  refine g_aln cx 0 dX12_stock_0 rfl ?_
  refine g_ic cx dX12_stock_1 k_ic0 ?_
  refine mp_thrown cx hf dX12_stock_2 (fun s_o_1 hf => ?_)
  refine g_iln cx 1 dX12_stock_5 rfl ?_
  refine g_ic cx dX12_stock_6 k_ic0 ?_
  refine g_aln cx 0 dX12_stock_7 rfl ?_
  refine mg_stocks cx dX12_stock_8 ?_
  refine g_ic cx dX12_stock_11 k_ic1 ?_
  refine g_isub cx dX12_stock_12 ?_
  refine ob hf (fun q_2 hq_2 hf => ?_)
  refine g_callSiR cx lk_RX12_82 (c_X12_in l D cB cI cJ cZ x1 0 ((mI s_o_1 15) - 1) q_2 hq_2) rfl [] rfl rfl rfl (Nat.le_of_ble_eq_true rfl) ⟨rfl, rfl, Nat.le_of_ble_eq_true rfl, Nat.le_of_ble_eq_true rfl⟩ dX12_stock_13 ?_
  refine g_if_eq (tgt := 41) cx hf dX12_stock_16 rfl (fun hf => ?_) (fun hf => ?_)
  · refine g_ic cx dX12_stock_41 k_icm1 ?_
    exact g_iret (ovf := fun (r : Int32 × SM) => (some (.int r.1))) (wf := fun (r : Int32 × SM) => (wX12 o cB cI cJ cZ r.2)) cx hA hr hf rfl rfl dX12_stock_42
  · refine g_iln cx 2 dX12_stock_19 rfl ?_
    refine g_ic cx dX12_stock_20 k_ic0 ?_
    refine g_ic cx dX12_stock_21 k_ic2 ?_
    refine ob hf (fun q_3 hq_3 hf => ?_)
    refine g_callSiR cx lk_RX12_82 (c_X12_in l D cB cI cJ cZ x2 0 2 q_3 hq_3) rfl [] rfl rfl rfl (Nat.le_of_ble_eq_true rfl) ⟨rfl, rfl, Nat.le_of_ble_eq_true rfl, Nat.le_of_ble_eq_true rfl⟩ dX12_stock_22 ?_
    refine g_if_eq (tgt := 41) cx hf dX12_stock_25 rfl (fun hf => ?_) (fun hf => ?_)
    · refine g_ic cx dX12_stock_41 k_icm1 ?_
      exact g_iret (ovf := fun (r : Int32 × SM) => (some (.int r.1))) (wf := fun (r : Int32 × SM) => (wX12 o cB cI cJ cZ r.2)) cx hA hr hf rfl rfl dX12_stock_42
    · refine g_aln cx 0 dX12_stock_28 rfl ?_
      refine mg_stock cx dX12_stock_29 ?_
      refine g_ic cx dX12_stock_32 k_ic3 ?_
      refine g_iln cx 1 dX12_stock_33 rfl ?_
      refine g_imul cx dX12_stock_34 ?_
      refine g_iln cx 2 dX12_stock_35 rfl ?_
      refine g_iadd cx dX12_stock_36 ?_
      refine ml_stock cx hf dX12_stock_37 (fun e_4 hf => ?_)
      refine g_goto (tgt := 42) cx dX12_stock_38 rfl ?_
      exact g_iret (ovf := fun (r : Int32 × SM) => (some (.int r.1))) (wf := fun (r : Int32 × SM) => (wX12 o cB cI cJ cZ r.2)) cx hA hr hf rfl rfl dX12_stock_42
def tX12_put_9 : List Nat := 46 :: 4 :: 96 :: 79 :: 42 :: 180 :: 0 :: 28 :: 3 :: 46 :: 172 :: []
def tX12_put_8 : List Nat := 0 :: 28 :: 6 :: 6 :: 27 :: 104 :: 96 :: 21 :: 4 :: 79 :: 42 :: 180 :: 0 :: 28 :: 3 :: 92 :: tX12_put_9
def tX12_put_7 : List Nat := 96 :: 28 :: 79 :: 42 :: 180 :: 0 :: 28 :: 5 :: 6 :: 27 :: 104 :: 96 :: 29 :: 79 :: 42 :: 180 :: tX12_put_8
def tX12_put_6 : List Nat := 46 :: 79 :: 132 :: 5 :: 255 :: 167 :: 255 :: 229 :: 42 :: 180 :: 0 :: 28 :: 4 :: 6 :: 27 :: 104 :: tX12_put_7
def tX12_put_5 : List Nat := 0 :: 25 :: 42 :: 180 :: 0 :: 28 :: 6 :: 21 :: 5 :: 96 :: 42 :: 180 :: 0 :: 28 :: 21 :: 5 :: tX12_put_6
def tX12_put_4 : List Nat := 6 :: 42 :: 180 :: 0 :: 28 :: 3 :: 46 :: 104 :: 54 :: 5 :: 21 :: 5 :: 6 :: 27 :: 104 :: 164 :: tX12_put_5
def tX12_put_3 : List Nat := 2 :: 172 :: 42 :: 180 :: 0 :: 28 :: 3 :: 46 :: 16 :: 8 :: 160 :: 0 :: 6 :: 16 :: 253 :: 172 :: tX12_put_4
def tX12_put_2 : List Nat := 0 :: 82 :: 153 :: 0 :: 14 :: 21 :: 4 :: 3 :: 16 :: 16 :: 184 :: 0 :: 82 :: 154 :: 0 :: 5 :: tX12_put_3
def tX12_put_1 : List Nat := 153 :: 0 :: 32 :: 42 :: 28 :: 182 :: 0 :: 175 :: 153 :: 0 :: 24 :: 29 :: 3 :: 16 :: 9 :: 184 :: tX12_put_2
def tX12_put_0 : List Nat := 42 :: 3 :: 181 :: 0 :: 78 :: 27 :: 3 :: 42 :: 180 :: 0 :: 28 :: 3 :: 46 :: 184 :: 0 :: 82 :: tX12_put_1
theorem tX12_putf_0 : (cX12_put.data.toList.map UInt8.toNat).drop 0 = tX12_put_0 := by decide +kernel
theorem tX12_putf_1 : (cX12_put.data.toList.map UInt8.toNat).drop 16 = tX12_put_1 := fd_next (k := 0) tX12_putf_0 rfl
theorem tX12_putf_2 : (cX12_put.data.toList.map UInt8.toNat).drop 32 = tX12_put_2 := fd_next (k := 16) tX12_putf_1 rfl
theorem tX12_putf_3 : (cX12_put.data.toList.map UInt8.toNat).drop 48 = tX12_put_3 := fd_next (k := 32) tX12_putf_2 rfl
theorem tX12_putf_4 : (cX12_put.data.toList.map UInt8.toNat).drop 64 = tX12_put_4 := fd_next (k := 48) tX12_putf_3 rfl
theorem tX12_putf_5 : (cX12_put.data.toList.map UInt8.toNat).drop 80 = tX12_put_5 := fd_next (k := 64) tX12_putf_4 rfl
theorem tX12_putf_6 : (cX12_put.data.toList.map UInt8.toNat).drop 96 = tX12_put_6 := fd_next (k := 80) tX12_putf_5 rfl
theorem tX12_putf_7 : (cX12_put.data.toList.map UInt8.toNat).drop 112 = tX12_put_7 := fd_next (k := 96) tX12_putf_6 rfl
theorem tX12_putf_8 : (cX12_put.data.toList.map UInt8.toNat).drop 128 = tX12_put_8 := fd_next (k := 112) tX12_putf_7 rfl
theorem tX12_putf_9 : (cX12_put.data.toList.map UInt8.toNat).drop 144 = tX12_put_9 := fd_next (k := 128) tX12_putf_8 rfl
theorem dX12_put_0 : decode cX12_put 0 = .ok (.aload_n 0, 1) := dk_42 (fdB_of (k := 0) tX12_putf_0 0 42 rfl)
theorem dX12_put_1 : decode cX12_put 1 = .ok (.iconst 0, 1) := dk_3 (fdB_of (k := 0) tX12_putf_0 1 3 rfl)
theorem dX12_put_2 : decode cX12_put 2 = .ok (.putfield 78, 3) := dk_181 (fdB_of (k := 0) tX12_putf_0 2 181 rfl) (fdB_of (k := 0) tX12_putf_0 3 0 rfl) (fdB_of (k := 0) tX12_putf_0 4 78 rfl)
theorem dX12_put_5 : decode cX12_put 5 = .ok (.iload_n 1, 1) := dk_27 (fdB_of (k := 0) tX12_putf_0 5 27 rfl)
theorem dX12_put_6 : decode cX12_put 6 = .ok (.iconst 0, 1) := dk_3 (fdB_of (k := 0) tX12_putf_0 6 3 rfl)
theorem dX12_put_7 : decode cX12_put 7 = .ok (.aload_n 0, 1) := dk_42 (fdB_of (k := 0) tX12_putf_0 7 42 rfl)
theorem dX12_put_8 : decode cX12_put 8 = .ok (.getfield 28, 3) := dk_180 (fdB_of (k := 0) tX12_putf_0 8 180 rfl) (fdB_of (k := 0) tX12_putf_0 9 0 rfl) (fdB_of (k := 0) tX12_putf_0 10 28 rfl)
theorem dX12_put_11 : decode cX12_put 11 = .ok (.iconst 0, 1) := dk_3 (fdB_of (k := 0) tX12_putf_0 11 3 rfl)
theorem dX12_put_12 : decode cX12_put 12 = .ok (.iaload, 1) := dk_46 (fdB_of (k := 0) tX12_putf_0 12 46 rfl)
theorem dX12_put_13 : decode cX12_put 13 = .ok (.invokestatic 82, 3) := dk_184 (fdB_of (k := 0) tX12_putf_0 13 184 rfl) (fdB_of (k := 0) tX12_putf_0 14 0 rfl) (fdB_of (k := 0) tX12_putf_0 15 82 rfl)
theorem dX12_put_16 : decode cX12_put 16 = .ok (.ifCond .eq 32, 3) := dk_153 (fdB_of (k := 16) tX12_putf_1 0 153 rfl) (fdB_of (k := 16) tX12_putf_1 1 0 rfl) (fdB_of (k := 16) tX12_putf_1 2 32 rfl) (by decide +kernel)
theorem dX12_put_19 : decode cX12_put 19 = .ok (.aload_n 0, 1) := dk_42 (fdB_of (k := 16) tX12_putf_1 3 42 rfl)
theorem dX12_put_20 : decode cX12_put 20 = .ok (.iload_n 2, 1) := dk_28 (fdB_of (k := 16) tX12_putf_1 4 28 rfl)
theorem dX12_put_21 : decode cX12_put 21 = .ok (.invokevirtual 175, 3) := dk_182 (fdB_of (k := 16) tX12_putf_1 5 182 rfl) (fdB_of (k := 16) tX12_putf_1 6 0 rfl) (fdB_of (k := 16) tX12_putf_1 7 175 rfl)
theorem dX12_put_24 : decode cX12_put 24 = .ok (.ifCond .eq 24, 3) := dk_153 (fdB_of (k := 16) tX12_putf_1 8 153 rfl) (fdB_of (k := 16) tX12_putf_1 9 0 rfl) (fdB_of (k := 16) tX12_putf_1 10 24 rfl) (by decide +kernel)
theorem dX12_put_27 : decode cX12_put 27 = .ok (.iload_n 3, 1) := dk_29 (fdB_of (k := 16) tX12_putf_1 11 29 rfl)
theorem dX12_put_28 : decode cX12_put 28 = .ok (.iconst 0, 1) := dk_3 (fdB_of (k := 16) tX12_putf_1 12 3 rfl)
theorem dX12_put_29 : decode cX12_put 29 = .ok (.bipush 9, 2) := dk_16 (fdB_of (k := 16) tX12_putf_1 13 16 rfl) (fdB_of (k := 16) tX12_putf_1 14 9 rfl) (by decide +kernel)
theorem dX12_put_31 : decode cX12_put 31 = .ok (.invokestatic 82, 3) := dk_184 (fdB_of (k := 16) tX12_putf_1 15 184 rfl) (fdB_of (k := 32) tX12_putf_2 0 0 rfl) (fdB_of (k := 32) tX12_putf_2 1 82 rfl)
theorem dX12_put_34 : decode cX12_put 34 = .ok (.ifCond .eq 14, 3) := dk_153 (fdB_of (k := 32) tX12_putf_2 2 153 rfl) (fdB_of (k := 32) tX12_putf_2 3 0 rfl) (fdB_of (k := 32) tX12_putf_2 4 14 rfl) (by decide +kernel)
theorem dX12_put_37 : decode cX12_put 37 = .ok (.iload 4, 2) := dk_21 (fdB_of (k := 32) tX12_putf_2 5 21 rfl) (fdB_of (k := 32) tX12_putf_2 6 4 rfl)
theorem dX12_put_39 : decode cX12_put 39 = .ok (.iconst 0, 1) := dk_3 (fdB_of (k := 32) tX12_putf_2 7 3 rfl)
theorem dX12_put_40 : decode cX12_put 40 = .ok (.bipush 16, 2) := dk_16 (fdB_of (k := 32) tX12_putf_2 8 16 rfl) (fdB_of (k := 32) tX12_putf_2 9 16 rfl) (by decide +kernel)
theorem dX12_put_42 : decode cX12_put 42 = .ok (.invokestatic 82, 3) := dk_184 (fdB_of (k := 32) tX12_putf_2 10 184 rfl) (fdB_of (k := 32) tX12_putf_2 11 0 rfl) (fdB_of (k := 32) tX12_putf_2 12 82 rfl)
theorem dX12_put_45 : decode cX12_put 45 = .ok (.ifCond .ne 5, 3) := dk_154 (fdB_of (k := 32) tX12_putf_2 13 154 rfl) (fdB_of (k := 32) tX12_putf_2 14 0 rfl) (fdB_of (k := 32) tX12_putf_2 15 5 rfl) (by decide +kernel)
theorem dX12_put_48 : decode cX12_put 48 = .ok (.iconst (-1), 1) := dk_2 (fdB_of (k := 48) tX12_putf_3 0 2 rfl)
theorem dX12_put_49 : decode cX12_put 49 = .ok (.ireturn, 1) := dk_172 (fdB_of (k := 48) tX12_putf_3 1 172 rfl)
theorem dX12_put_50 : decode cX12_put 50 = .ok (.aload_n 0, 1) := dk_42 (fdB_of (k := 48) tX12_putf_3 2 42 rfl)
theorem dX12_put_51 : decode cX12_put 51 = .ok (.getfield 28, 3) := dk_180 (fdB_of (k := 48) tX12_putf_3 3 180 rfl) (fdB_of (k := 48) tX12_putf_3 4 0 rfl) (fdB_of (k := 48) tX12_putf_3 5 28 rfl)
theorem dX12_put_54 : decode cX12_put 54 = .ok (.iconst 0, 1) := dk_3 (fdB_of (k := 48) tX12_putf_3 6 3 rfl)
theorem dX12_put_55 : decode cX12_put 55 = .ok (.iaload, 1) := dk_46 (fdB_of (k := 48) tX12_putf_3 7 46 rfl)
theorem dX12_put_56 : decode cX12_put 56 = .ok (.bipush 8, 2) := dk_16 (fdB_of (k := 48) tX12_putf_3 8 16 rfl) (fdB_of (k := 48) tX12_putf_3 9 8 rfl) (by decide +kernel)
theorem dX12_put_58 : decode cX12_put 58 = .ok (.if_icmp .ne 6, 3) := dk_160 (fdB_of (k := 48) tX12_putf_3 10 160 rfl) (fdB_of (k := 48) tX12_putf_3 11 0 rfl) (fdB_of (k := 48) tX12_putf_3 12 6 rfl) (by decide +kernel)
theorem dX12_put_61 : decode cX12_put 61 = .ok (.bipush (-3), 2) := dk_16 (fdB_of (k := 48) tX12_putf_3 13 16 rfl) (fdB_of (k := 48) tX12_putf_3 14 253 rfl) (by decide +kernel)
theorem dX12_put_63 : decode cX12_put 63 = .ok (.ireturn, 1) := dk_172 (fdB_of (k := 48) tX12_putf_3 15 172 rfl)
theorem dX12_put_64 : decode cX12_put 64 = .ok (.iconst 3, 1) := dk_6 (fdB_of (k := 64) tX12_putf_4 0 6 rfl)
theorem dX12_put_65 : decode cX12_put 65 = .ok (.aload_n 0, 1) := dk_42 (fdB_of (k := 64) tX12_putf_4 1 42 rfl)
theorem dX12_put_66 : decode cX12_put 66 = .ok (.getfield 28, 3) := dk_180 (fdB_of (k := 64) tX12_putf_4 2 180 rfl) (fdB_of (k := 64) tX12_putf_4 3 0 rfl) (fdB_of (k := 64) tX12_putf_4 4 28 rfl)
theorem dX12_put_69 : decode cX12_put 69 = .ok (.iconst 0, 1) := dk_3 (fdB_of (k := 64) tX12_putf_4 5 3 rfl)
theorem dX12_put_70 : decode cX12_put 70 = .ok (.iaload, 1) := dk_46 (fdB_of (k := 64) tX12_putf_4 6 46 rfl)
theorem dX12_put_71 : decode cX12_put 71 = .ok (.imul, 1) := dk_104 (fdB_of (k := 64) tX12_putf_4 7 104 rfl)
theorem dX12_put_72 : decode cX12_put 72 = .ok (.istore 5, 2) := dk_54 (fdB_of (k := 64) tX12_putf_4 8 54 rfl) (fdB_of (k := 64) tX12_putf_4 9 5 rfl)
theorem dX12_put_74 : decode cX12_put 74 = .ok (.iload 5, 2) := dk_21 (fdB_of (k := 64) tX12_putf_4 10 21 rfl) (fdB_of (k := 64) tX12_putf_4 11 5 rfl)
theorem dX12_put_76 : decode cX12_put 76 = .ok (.iconst 3, 1) := dk_6 (fdB_of (k := 64) tX12_putf_4 12 6 rfl)
theorem dX12_put_77 : decode cX12_put 77 = .ok (.iload_n 1, 1) := dk_27 (fdB_of (k := 64) tX12_putf_4 13 27 rfl)
theorem dX12_put_78 : decode cX12_put 78 = .ok (.imul, 1) := dk_104 (fdB_of (k := 64) tX12_putf_4 14 104 rfl)
theorem dX12_put_79 : decode cX12_put 79 = .ok (.if_icmp .le 25, 3) := dk_164 (fdB_of (k := 64) tX12_putf_4 15 164 rfl) (fdB_of (k := 80) tX12_putf_5 0 0 rfl) (fdB_of (k := 80) tX12_putf_5 1 25 rfl) (by decide +kernel)
theorem dX12_put_82 : decode cX12_put 82 = .ok (.aload_n 0, 1) := dk_42 (fdB_of (k := 80) tX12_putf_5 2 42 rfl)
theorem dX12_put_83 : decode cX12_put 83 = .ok (.getfield 28, 3) := dk_180 (fdB_of (k := 80) tX12_putf_5 3 180 rfl) (fdB_of (k := 80) tX12_putf_5 4 0 rfl) (fdB_of (k := 80) tX12_putf_5 5 28 rfl)
theorem dX12_put_86 : decode cX12_put 86 = .ok (.iconst 3, 1) := dk_6 (fdB_of (k := 80) tX12_putf_5 6 6 rfl)
theorem dX12_put_87 : decode cX12_put 87 = .ok (.iload 5, 2) := dk_21 (fdB_of (k := 80) tX12_putf_5 7 21 rfl) (fdB_of (k := 80) tX12_putf_5 8 5 rfl)
theorem dX12_put_89 : decode cX12_put 89 = .ok (.iadd, 1) := dk_96 (fdB_of (k := 80) tX12_putf_5 9 96 rfl)
theorem dX12_put_90 : decode cX12_put 90 = .ok (.aload_n 0, 1) := dk_42 (fdB_of (k := 80) tX12_putf_5 10 42 rfl)
theorem dX12_put_91 : decode cX12_put 91 = .ok (.getfield 28, 3) := dk_180 (fdB_of (k := 80) tX12_putf_5 11 180 rfl) (fdB_of (k := 80) tX12_putf_5 12 0 rfl) (fdB_of (k := 80) tX12_putf_5 13 28 rfl)
theorem dX12_put_94 : decode cX12_put 94 = .ok (.iload 5, 2) := dk_21 (fdB_of (k := 80) tX12_putf_5 14 21 rfl) (fdB_of (k := 80) tX12_putf_5 15 5 rfl)
theorem dX12_put_96 : decode cX12_put 96 = .ok (.iaload, 1) := dk_46 (fdB_of (k := 96) tX12_putf_6 0 46 rfl)
theorem dX12_put_97 : decode cX12_put 97 = .ok (.iastore, 1) := dk_79 (fdB_of (k := 96) tX12_putf_6 1 79 rfl)
theorem dX12_put_98 : decode cX12_put 98 = .ok (.iinc 5 (-1), 3) := dk_132 (fdB_of (k := 96) tX12_putf_6 2 132 rfl) (fdB_of (k := 96) tX12_putf_6 3 5 rfl) (fdB_of (k := 96) tX12_putf_6 4 255 rfl) (by decide +kernel)
theorem dX12_put_101 : decode cX12_put 101 = .ok (.goto (-27), 3) := dk_167 (fdB_of (k := 96) tX12_putf_6 5 167 rfl) (fdB_of (k := 96) tX12_putf_6 6 255 rfl) (fdB_of (k := 96) tX12_putf_6 7 229 rfl) (by decide +kernel)
theorem dX12_put_104 : decode cX12_put 104 = .ok (.aload_n 0, 1) := dk_42 (fdB_of (k := 96) tX12_putf_6 8 42 rfl)
theorem dX12_put_105 : decode cX12_put 105 = .ok (.getfield 28, 3) := dk_180 (fdB_of (k := 96) tX12_putf_6 9 180 rfl) (fdB_of (k := 96) tX12_putf_6 10 0 rfl) (fdB_of (k := 96) tX12_putf_6 11 28 rfl)
theorem dX12_put_108 : decode cX12_put 108 = .ok (.iconst 1, 1) := dk_4 (fdB_of (k := 96) tX12_putf_6 12 4 rfl)
theorem dX12_put_109 : decode cX12_put 109 = .ok (.iconst 3, 1) := dk_6 (fdB_of (k := 96) tX12_putf_6 13 6 rfl)
theorem dX12_put_110 : decode cX12_put 110 = .ok (.iload_n 1, 1) := dk_27 (fdB_of (k := 96) tX12_putf_6 14 27 rfl)
theorem dX12_put_111 : decode cX12_put 111 = .ok (.imul, 1) := dk_104 (fdB_of (k := 96) tX12_putf_6 15 104 rfl)
theorem dX12_put_112 : decode cX12_put 112 = .ok (.iadd, 1) := dk_96 (fdB_of (k := 112) tX12_putf_7 0 96 rfl)
theorem dX12_put_113 : decode cX12_put 113 = .ok (.iload_n 2, 1) := dk_28 (fdB_of (k := 112) tX12_putf_7 1 28 rfl)
theorem dX12_put_114 : decode cX12_put 114 = .ok (.iastore, 1) := dk_79 (fdB_of (k := 112) tX12_putf_7 2 79 rfl)
theorem dX12_put_115 : decode cX12_put 115 = .ok (.aload_n 0, 1) := dk_42 (fdB_of (k := 112) tX12_putf_7 3 42 rfl)
theorem dX12_put_116 : decode cX12_put 116 = .ok (.getfield 28, 3) := dk_180 (fdB_of (k := 112) tX12_putf_7 4 180 rfl) (fdB_of (k := 112) tX12_putf_7 5 0 rfl) (fdB_of (k := 112) tX12_putf_7 6 28 rfl)
theorem dX12_put_119 : decode cX12_put 119 = .ok (.iconst 2, 1) := dk_5 (fdB_of (k := 112) tX12_putf_7 7 5 rfl)
theorem dX12_put_120 : decode cX12_put 120 = .ok (.iconst 3, 1) := dk_6 (fdB_of (k := 112) tX12_putf_7 8 6 rfl)
theorem dX12_put_121 : decode cX12_put 121 = .ok (.iload_n 1, 1) := dk_27 (fdB_of (k := 112) tX12_putf_7 9 27 rfl)
theorem dX12_put_122 : decode cX12_put 122 = .ok (.imul, 1) := dk_104 (fdB_of (k := 112) tX12_putf_7 10 104 rfl)
theorem dX12_put_123 : decode cX12_put 123 = .ok (.iadd, 1) := dk_96 (fdB_of (k := 112) tX12_putf_7 11 96 rfl)
theorem dX12_put_124 : decode cX12_put 124 = .ok (.iload_n 3, 1) := dk_29 (fdB_of (k := 112) tX12_putf_7 12 29 rfl)
theorem dX12_put_125 : decode cX12_put 125 = .ok (.iastore, 1) := dk_79 (fdB_of (k := 112) tX12_putf_7 13 79 rfl)
theorem dX12_put_126 : decode cX12_put 126 = .ok (.aload_n 0, 1) := dk_42 (fdB_of (k := 112) tX12_putf_7 14 42 rfl)
theorem dX12_put_127 : decode cX12_put 127 = .ok (.getfield 28, 3) := dk_180 (fdB_of (k := 112) tX12_putf_7 15 180 rfl) (fdB_of (k := 128) tX12_putf_8 0 0 rfl) (fdB_of (k := 128) tX12_putf_8 1 28 rfl)
theorem dX12_put_130 : decode cX12_put 130 = .ok (.iconst 3, 1) := dk_6 (fdB_of (k := 128) tX12_putf_8 2 6 rfl)
theorem dX12_put_131 : decode cX12_put 131 = .ok (.iconst 3, 1) := dk_6 (fdB_of (k := 128) tX12_putf_8 3 6 rfl)
theorem dX12_put_132 : decode cX12_put 132 = .ok (.iload_n 1, 1) := dk_27 (fdB_of (k := 128) tX12_putf_8 4 27 rfl)
theorem dX12_put_133 : decode cX12_put 133 = .ok (.imul, 1) := dk_104 (fdB_of (k := 128) tX12_putf_8 5 104 rfl)
theorem dX12_put_134 : decode cX12_put 134 = .ok (.iadd, 1) := dk_96 (fdB_of (k := 128) tX12_putf_8 6 96 rfl)
theorem dX12_put_135 : decode cX12_put 135 = .ok (.iload 4, 2) := dk_21 (fdB_of (k := 128) tX12_putf_8 7 21 rfl) (fdB_of (k := 128) tX12_putf_8 8 4 rfl)
theorem dX12_put_137 : decode cX12_put 137 = .ok (.iastore, 1) := dk_79 (fdB_of (k := 128) tX12_putf_8 9 79 rfl)
theorem dX12_put_138 : decode cX12_put 138 = .ok (.aload_n 0, 1) := dk_42 (fdB_of (k := 128) tX12_putf_8 10 42 rfl)
theorem dX12_put_139 : decode cX12_put 139 = .ok (.getfield 28, 3) := dk_180 (fdB_of (k := 128) tX12_putf_8 11 180 rfl) (fdB_of (k := 128) tX12_putf_8 12 0 rfl) (fdB_of (k := 128) tX12_putf_8 13 28 rfl)
theorem dX12_put_142 : decode cX12_put 142 = .ok (.iconst 0, 1) := dk_3 (fdB_of (k := 128) tX12_putf_8 14 3 rfl)
theorem dX12_put_143 : decode cX12_put 143 = .ok (.dup2, 1) := dk_92 (fdB_of (k := 128) tX12_putf_8 15 92 rfl)
theorem dX12_put_144 : decode cX12_put 144 = .ok (.iaload, 1) := dk_46 (fdB_of (k := 144) tX12_putf_9 0 46 rfl)
theorem dX12_put_145 : decode cX12_put 145 = .ok (.iconst 1, 1) := dk_4 (fdB_of (k := 144) tX12_putf_9 1 4 rfl)
theorem dX12_put_146 : decode cX12_put 146 = .ok (.iadd, 1) := dk_96 (fdB_of (k := 144) tX12_putf_9 2 96 rfl)
theorem dX12_put_147 : decode cX12_put 147 = .ok (.iastore, 1) := dk_79 (fdB_of (k := 144) tX12_putf_9 3 79 rfl)
theorem dX12_put_148 : decode cX12_put 148 = .ok (.aload_n 0, 1) := dk_42 (fdB_of (k := 144) tX12_putf_9 4 42 rfl)
theorem dX12_put_149 : decode cX12_put 149 = .ok (.getfield 28, 3) := dk_180 (fdB_of (k := 144) tX12_putf_9 5 180 rfl) (fdB_of (k := 144) tX12_putf_9 6 0 rfl) (fdB_of (k := 144) tX12_putf_9 7 28 rfl)
theorem dX12_put_152 : decode cX12_put 152 = .ok (.iconst 0, 1) := dk_3 (fdB_of (k := 144) tX12_putf_9 8 3 rfl)
theorem dX12_put_153 : decode cX12_put 153 = .ok (.iaload, 1) := dk_46 (fdB_of (k := 144) tX12_putf_9 9 46 rfl)
theorem dX12_put_154 : decode cX12_put 154 = .ok (.ireturn, 1) := dk_172 (fdB_of (k := 144) tX12_putf_9 10 172 rfl)



def F_X12_put_b74 (x1 : Int32) (x2 : Int32) (x3 : Int32) (x4 : Int32) : Nat → Int32 → SM → Option (Int32 × SM)
  | 0, _, _ => none
  | n + 1, v5, zs_o => (if v5 ≤ (3 * x1) then (aset 25 (mA zs_o 21) (1 + (3 * x1)) x2).bind fun f_1 => nm (mAs zs_o 21 f_1) fun s_o_2 => (aset 25 (mA s_o_2 21) (2 + (3 * x1)) x3).bind fun f_3 => nm (mAs s_o_2 21 f_3) fun s_o_4 => (aset 25 (mA s_o_4 21) (3 + (3 * x1)) x4).bind fun f_5 => nm (mAs s_o_4 21 f_5) fun s_o_6 => (aget 25 (mA s_o_6 21) 0).bind fun e_7 => (aset 25 (mA s_o_6 21) 0 (e_7 + 1)).bind fun f_8 => nm (mAs s_o_6 21 f_8) fun s_o_9 => (aget 25 (mA s_o_9 21) 0).bind fun e_10 => some (e_10, s_o_9) else (aget 25 (mA zs_o 21) v5).bind fun e_11 => (aset 25 (mA zs_o 21) (3 + v5) e_11).bind fun f_12 => nm (mAs zs_o 21 f_12) fun s_o_13 => nm (v5 - 1) fun v5_14 => (F_X12_put_b74 x1 x2 x3 x4 n) v5_14 s_o_13)
def F_X12_put (s_o : SM) (x1 : Int32) (x2 : Int32) (x3 : Int32) (x4 : Int32) : Option (Int32 × SM) := nm (mIs s_o 0 0) fun s_o_15 => (aget 25 (mA s_o_15 21) 0).bind fun e_16 => (F_X12_in x1 0 e_16).bind fun q_17 => (if q_17 = 0 then some ((-1), s_o_15) else (F_X12_isWord s_o_15 x2).bind fun q_18 => (if q_18 = 0 then some ((-1), s_o_15) else (F_X12_in x3 0 9).bind fun q_19 => (if q_19 = 0 then some ((-1), s_o_15) else (F_X12_in x4 0 16).bind fun q_20 => (if q_20 = 0 then some ((-1), s_o_15) else (aget 25 (mA s_o_15 21) 0).bind fun e_21 => (if e_21 = 8 then some ((-3), s_o_15) else (aget 25 (mA s_o_15 21) 0).bind fun e_22 => nm (3 * e_22) fun v5_23 => F_X12_put_b74 x1 x2 x3 x4 fu v5_23 s_o_15)))))

abbrev rm_X12_put : Room := { frames := 2, cells := 0, slots := 0, locals := 43 }
set_option maxHeartbeats 4000000 in
set_option maxRecDepth 100000 in
theorem c_X12_put (l : Launch) (D : gG) (cB cI cJ cZ : ClassId) (o : Nat → Nat) (s_o : SM) (x1 : Int32) (x2 : Int32) (x3 : Int32) (x4 : Int32) (r : Int32 × SM) (hf : F_X12_put s_o x1 x2 x3 x4 = some r) : gM l D (tyL cB cI cJ cZ) yX12_put cX12_put 6 (some .int) rm_X12_put [.ref (o 0), .int x1, .int x2, .int x3, .int x4] (wX12 o cB cI cJ cZ s_o) (some (.int r.1)) (wX12 o cB cI cJ cZ r.2) := by
  refine met_of (by decide) (Nat.le_of_ble_eq_true rfl) ?_
  intro p e s m args below meth c A cx hr hA
  show gW p l e rm_X12_put s m args below meth c D A 6 _ 0 0 _ [(0, .ref (o 0)), (1, .int x1), (2, .int x2), (3, .int x3), (4, .int x4)] 0 []
  have h74 : ∀ (n : Nat) (v5 : Int32) (zs_o : SM), F_X12_put_b74 x1 x2 x3 x4 n v5 zs_o = some r → gW p l e rm_X12_put s m args below meth c D A 6 (MQ below (QM D (tyL cB cI cJ cZ) (some (.int r.1)) (wX12 o cB cI cJ cZ s_o) (wX12 o cB cI cJ cZ r.2) s.heap.size) args s 0 0 A) 0 0 (wX12 o cB cI cJ cZ zs_o) [(0, .ref (o 0)), (1, .int x1), (2, .int x2), (3, .int x3), (4, .int x4), (5, .int v5)] 74 [] := by
    intro n
    induction n with
    | zero => intro v5 zs_o hf; rw [F_X12_put_b74] at hf; cases hf
    | succ n ih =>
      intro v5 zs_o hf
      rw [F_X12_put_b74] at hf
      refine g_il cx 5 dX12_put_74 rfl ?_
      refine g_ic cx dX12_put_76 k_ic3 ?_
      refine g_iln cx 1 dX12_put_77 rfl ?_
      refine g_imul cx dX12_put_78 ?_
      refine g_ic_le (tgt := 104) cx hf dX12_put_79 rfl (fun hf => ?_) (fun hf => ?_)
      · refine g_aln cx 0 dX12_put_104 rfl ?_
        refine mg_s cx dX12_put_105 ?_
        refine g_ic cx dX12_put_108 k_ic1 ?_
        refine g_ic cx dX12_put_109 k_ic3 ?_
        refine g_iln cx 1 dX12_put_110 rfl ?_
        refine g_imul cx dX12_put_111 ?_
        refine g_iadd cx dX12_put_112 ?_
        refine g_iln cx 2 dX12_put_113 rfl ?_
        refine ms_s cx hf dX12_put_114 (fun s_o_2 hf => ?_)
        refine g_aln cx 0 dX12_put_115 rfl ?_
        refine mg_s cx dX12_put_116 ?_
        refine g_ic cx dX12_put_119 k_ic2 ?_
        refine g_ic cx dX12_put_120 k_ic3 ?_
        refine g_iln cx 1 dX12_put_121 rfl ?_
        refine g_imul cx dX12_put_122 ?_
        refine g_iadd cx dX12_put_123 ?_
        refine g_iln cx 3 dX12_put_124 rfl ?_
        refine ms_s cx hf dX12_put_125 (fun s_o_4 hf => ?_)
        refine g_aln cx 0 dX12_put_126 rfl ?_
        refine mg_s cx dX12_put_127 ?_
        refine g_ic cx dX12_put_130 k_ic3 ?_
        refine g_ic cx dX12_put_131 k_ic3 ?_
        refine g_iln cx 1 dX12_put_132 rfl ?_
        refine g_imul cx dX12_put_133 ?_
        refine g_iadd cx dX12_put_134 ?_
        refine g_il cx 4 dX12_put_135 rfl ?_
        refine ms_s cx hf dX12_put_137 (fun s_o_6 hf => ?_)
        refine g_aln cx 0 dX12_put_138 rfl ?_
        refine mg_s cx dX12_put_139 ?_
        refine g_ic cx dX12_put_142 k_ic0 ?_
        refine g_dup2 cx dX12_put_143 rfl rfl ?_
        refine ml_s cx hf dX12_put_144 (fun e_7 hf => ?_)
        refine g_ic cx dX12_put_145 k_ic1 ?_
        refine g_iadd cx dX12_put_146 ?_
        refine ms_s cx hf dX12_put_147 (fun s_o_9 hf => ?_)
        refine g_aln cx 0 dX12_put_148 rfl ?_
        refine mg_s cx dX12_put_149 ?_
        refine g_ic cx dX12_put_152 k_ic0 ?_
        refine ml_s cx hf dX12_put_153 (fun e_10 hf => ?_)
        exact g_iret (ovf := fun (r : Int32 × SM) => (some (.int r.1))) (wf := fun (r : Int32 × SM) => (wX12 o cB cI cJ cZ r.2)) cx hA hr hf rfl rfl dX12_put_154
      · refine g_aln cx 0 dX12_put_82 rfl ?_
        refine mg_s cx dX12_put_83 ?_
        refine g_ic cx dX12_put_86 k_ic3 ?_
        refine g_il cx 5 dX12_put_87 rfl ?_
        refine g_iadd cx dX12_put_89 ?_
        refine g_aln cx 0 dX12_put_90 rfl ?_
        refine mg_s cx dX12_put_91 ?_
        refine g_il cx 5 dX12_put_94 rfl ?_
        refine ml_s cx hf dX12_put_96 (fun e_11 hf => ?_)
        refine ms_s cx hf dX12_put_97 (fun s_o_13 hf => ?_)
        refine g_inc cx (L2 := fun v5_14 => [(5, .int v5_14), (0, .ref (o 0)), (1, .int x1), (2, .int x2), (3, .int x3), (4, .int x4)]) 5 hf dX12_put_98 rfl (k_incm1 _) (Nat.le_of_ble_eq_true rfl) (fun _ => rfl) (fun v5_14 hf => ?_)
        refine g_goto (tgt := 74) cx dX12_put_101 rfl ?_
        refine g_sub [1, 2, 3, 4, 5, 0] rfl ?_
        exact ih _ _ hf
  rw [F_X12_put] at hf
  refine g_aln cx 0 dX12_put_0 rfl ?_
  refine g_ic cx dX12_put_1 k_ic0 ?_
  refine mp_thrown cx hf dX12_put_2 (fun s_o_15 hf => ?_)
  refine g_iln cx 1 dX12_put_5 rfl ?_
  refine g_ic cx dX12_put_6 k_ic0 ?_
  refine g_aln cx 0 dX12_put_7 rfl ?_
  refine mg_s cx dX12_put_8 ?_
  refine g_ic cx dX12_put_11 k_ic0 ?_
  refine ml_s cx hf dX12_put_12 (fun e_16 hf => ?_)
  refine ob hf (fun q_17 hq_17 hf => ?_)
  refine g_callSiR cx lk_RX12_82 (c_X12_in l D cB cI cJ cZ x1 0 e_16 q_17 hq_17) rfl [] rfl rfl rfl (Nat.le_of_ble_eq_true rfl) ⟨rfl, rfl, Nat.le_of_ble_eq_true rfl, Nat.le_of_ble_eq_true rfl⟩ dX12_put_13 ?_
  refine g_if_eq (tgt := 48) cx hf dX12_put_16 rfl (fun hf => ?_) (fun hf => ?_)
  · refine g_ic cx dX12_put_48 k_icm1 ?_
    exact g_iret (ovf := fun (r : Int32 × SM) => (some (.int r.1))) (wf := fun (r : Int32 × SM) => (wX12 o cB cI cJ cZ r.2)) cx hA hr hf rfl rfl dX12_put_49
  · refine g_aln cx 0 dX12_put_19 rfl ?_
    refine g_iln cx 2 dX12_put_20 rfl ?_
    refine ob hf (fun q_18 hq_18 hf => ?_)
    refine g_callVFi cx lk_RX12_175 (c_X12_isWord l D cB cI cJ cZ o s_o_15 x2 q_18 hq_18) rfl (ci := 10) (q1 := 0) rfl rfl rfl (Nat.le_of_ble_eq_true rfl) ⟨rfl, rfl, Nat.le_of_ble_eq_true rfl, Nat.le_of_ble_eq_true rfl⟩ dX12_put_21 ?_
    refine g_if_eq (tgt := 48) cx hf dX12_put_24 rfl (fun hf => ?_) (fun hf => ?_)
    · refine g_ic cx dX12_put_48 k_icm1 ?_
      exact g_iret (ovf := fun (r : Int32 × SM) => (some (.int r.1))) (wf := fun (r : Int32 × SM) => (wX12 o cB cI cJ cZ r.2)) cx hA hr hf rfl rfl dX12_put_49
    · refine g_iln cx 3 dX12_put_27 rfl ?_
      refine g_ic cx dX12_put_28 k_ic0 ?_
      refine g_bp cx dX12_put_29 k_bp9 ?_
      refine ob hf (fun q_19 hq_19 hf => ?_)
      refine g_callSiR cx lk_RX12_82 (c_X12_in l D cB cI cJ cZ x3 0 9 q_19 hq_19) rfl [] rfl rfl rfl (Nat.le_of_ble_eq_true rfl) ⟨rfl, rfl, Nat.le_of_ble_eq_true rfl, Nat.le_of_ble_eq_true rfl⟩ dX12_put_31 ?_
      refine g_if_eq (tgt := 48) cx hf dX12_put_34 rfl (fun hf => ?_) (fun hf => ?_)
      · refine g_ic cx dX12_put_48 k_icm1 ?_
        exact g_iret (ovf := fun (r : Int32 × SM) => (some (.int r.1))) (wf := fun (r : Int32 × SM) => (wX12 o cB cI cJ cZ r.2)) cx hA hr hf rfl rfl dX12_put_49
      · refine g_il cx 4 dX12_put_37 rfl ?_
        refine g_ic cx dX12_put_39 k_ic0 ?_
        refine g_bp cx dX12_put_40 k_bp16 ?_
        refine ob hf (fun q_20 hq_20 hf => ?_)
        refine g_callSiR cx lk_RX12_82 (c_X12_in l D cB cI cJ cZ x4 0 16 q_20 hq_20) rfl [] rfl rfl rfl (Nat.le_of_ble_eq_true rfl) ⟨rfl, rfl, Nat.le_of_ble_eq_true rfl, Nat.le_of_ble_eq_true rfl⟩ dX12_put_42 ?_
        refine g_if_ne (tgt := 50) cx hf dX12_put_45 rfl (fun hf => ?_) (fun hf => ?_)
        · refine g_aln cx 0 dX12_put_50 rfl ?_
          refine mg_s cx dX12_put_51 ?_
          refine g_ic cx dX12_put_54 k_ic0 ?_
          refine ml_s cx hf dX12_put_55 (fun e_21 hf => ?_)
          refine g_bp cx dX12_put_56 k_bp8 ?_
          refine g_ic_ne (tgt := 64) cx hf dX12_put_58 rfl (fun hf => ?_) (fun hf => ?_)
          · refine g_ic cx dX12_put_64 k_ic3 ?_
            refine g_aln cx 0 dX12_put_65 rfl ?_
            refine mg_s cx dX12_put_66 ?_
            refine g_ic cx dX12_put_69 k_ic0 ?_
            refine ml_s cx hf dX12_put_70 (fun e_22 hf => ?_)
            refine g_imul cx dX12_put_71 ?_
            refine g_is cx (L2 := fun v5_23 => [(5, .int v5_23), (0, .ref (o 0)), (1, .int x1), (2, .int x2), (3, .int x3), (4, .int x4)]) hf dX12_put_72 (Nat.le_of_ble_eq_true rfl) (fun _ => rfl) (fun v5_23 hf => ?_)
            refine g_sub [1, 2, 3, 4, 5, 0] rfl ?_
            exact h74 fu _ _ hf
          · refine g_bp cx dX12_put_61 k_bpm3 ?_
            exact g_iret (ovf := fun (r : Int32 × SM) => (some (.int r.1))) (wf := fun (r : Int32 × SM) => (wX12 o cB cI cJ cZ r.2)) cx hA hr hf rfl rfl dX12_put_63
        · refine g_ic cx dX12_put_48 k_icm1 ?_
          exact g_iret (ovf := fun (r : Int32 × SM) => (some (.int r.1))) (wf := fun (r : Int32 × SM) => (wX12 o cB cI cJ cZ r.2)) cx hA hr hf rfl rfl dX12_put_49
theorem dX12_change_0 : decode cX12_change 0 = .ok (.aload_n 0, 1) := by decide +kernel
theorem dX12_change_1 : decode cX12_change 1 = .ok (.iconst 0, 1) := by decide +kernel
theorem dX12_change_2 : decode cX12_change 2 = .ok (.putfield 78, 3) := by decide +kernel
theorem dX12_change_5 : decode cX12_change 5 = .ok (.aload_n 0, 1) := by decide +kernel
theorem dX12_change_6 : decode cX12_change 6 = .ok (.iload_n 1, 1) := by decide +kernel
theorem dX12_change_7 : decode cX12_change 7 = .ok (.invokevirtual 185, 3) := by decide +kernel
theorem dX12_change_10 : decode cX12_change 10 = .ok (.ifCond .eq 11, 3) := by decide +kernel
theorem dX12_change_13 : decode cX12_change 13 = .ok (.aload_n 0, 1) := by decide +kernel
theorem dX12_change_14 : decode cX12_change 14 = .ok (.iload_n 2, 1) := by decide +kernel
theorem dX12_change_15 : decode cX12_change 15 = .ok (.invokevirtual 175, 3) := by decide +kernel
theorem dX12_change_18 : decode cX12_change 18 = .ok (.ifCond .ne 5, 3) := by decide +kernel
theorem dX12_change_21 : decode cX12_change 21 = .ok (.iconst (-1), 1) := by decide +kernel
theorem dX12_change_22 : decode cX12_change 22 = .ok (.ireturn, 1) := by decide +kernel
theorem dX12_change_23 : decode cX12_change 23 = .ok (.aload_n 0, 1) := by decide +kernel
theorem dX12_change_24 : decode cX12_change 24 = .ok (.getfield 28, 3) := by decide +kernel
theorem dX12_change_27 : decode cX12_change 27 = .ok (.iconst 1, 1) := by decide +kernel
theorem dX12_change_28 : decode cX12_change 28 = .ok (.iconst 3, 1) := by decide +kernel
theorem dX12_change_29 : decode cX12_change 29 = .ok (.iload_n 1, 1) := by decide +kernel
theorem dX12_change_30 : decode cX12_change 30 = .ok (.imul, 1) := by decide +kernel
theorem dX12_change_31 : decode cX12_change 31 = .ok (.iadd, 1) := by decide +kernel
theorem dX12_change_32 : decode cX12_change 32 = .ok (.iaload, 1) := by decide +kernel
theorem dX12_change_33 : decode cX12_change 33 = .ok (.istore_n 3, 1) := by decide +kernel
theorem dX12_change_34 : decode cX12_change 34 = .ok (.aload_n 0, 1) := by decide +kernel
theorem dX12_change_35 : decode cX12_change 35 = .ok (.getfield 28, 3) := by decide +kernel
theorem dX12_change_38 : decode cX12_change 38 = .ok (.iconst 1, 1) := by decide +kernel
theorem dX12_change_39 : decode cX12_change 39 = .ok (.iconst 3, 1) := by decide +kernel
theorem dX12_change_40 : decode cX12_change 40 = .ok (.iload_n 1, 1) := by decide +kernel
theorem dX12_change_41 : decode cX12_change 41 = .ok (.imul, 1) := by decide +kernel
theorem dX12_change_42 : decode cX12_change 42 = .ok (.iadd, 1) := by decide +kernel
theorem dX12_change_43 : decode cX12_change 43 = .ok (.iload_n 2, 1) := by decide +kernel
theorem dX12_change_44 : decode cX12_change 44 = .ok (.iastore, 1) := by decide +kernel
theorem dX12_change_45 : decode cX12_change 45 = .ok (.iload_n 3, 1) := by decide +kernel
theorem dX12_change_46 : decode cX12_change 46 = .ok (.ireturn, 1) := by decide +kernel


def F_X12_change (s_o : SM) (x1 : Int32) (x2 : Int32) : Option (Int32 × SM) := nm (mIs s_o 0 0) fun s_o_1 => (F_X12_isLine s_o_1 x1).bind fun q_2 => (if q_2 = 0 then some ((-1), s_o_1) else (F_X12_isWord s_o_1 x2).bind fun q_3 => (if q_3 = 0 then some ((-1), s_o_1) else (aget 25 (mA s_o_1 21) (1 + (3 * x1))).bind fun e_4 => nm e_4 fun v3_5 => (aset 25 (mA s_o_1 21) (1 + (3 * x1)) x2).bind fun f_6 => nm (mAs s_o_1 21 f_6) fun s_o_7 => some (v3_5, s_o_7)))

abbrev rm_X12_change : Room := { frames := 2, cells := 0, slots := 0, locals := 43 }
set_option maxHeartbeats 4000000 in
set_option maxRecDepth 100000 in
theorem c_X12_change (l : Launch) (D : gG) (cB cI cJ cZ : ClassId) (o : Nat → Nat) (s_o : SM) (x1 : Int32) (x2 : Int32) (r : Int32 × SM) (hf : F_X12_change s_o x1 x2 = some r) : gM l D (tyL cB cI cJ cZ) yX12_change cX12_change 4 (some .int) rm_X12_change [.ref (o 0), .int x1, .int x2] (wX12 o cB cI cJ cZ s_o) (some (.int r.1)) (wX12 o cB cI cJ cZ r.2) := by
  refine met_of (by decide) (Nat.le_of_ble_eq_true rfl) ?_
  intro p e s m args below meth c A cx hr hA
  show gW p l e rm_X12_change s m args below meth c D A 4 _ 0 0 _ [(0, .ref (o 0)), (1, .int x1), (2, .int x2)] 0 []
  rw [F_X12_change] at hf
  refine g_aln cx 0 dX12_change_0 rfl ?_
  refine g_ic cx dX12_change_1 k_ic0 ?_
  refine mp_thrown cx hf dX12_change_2 (fun s_o_1 hf => ?_)
  refine g_aln cx 0 dX12_change_5 rfl ?_
  refine g_iln cx 1 dX12_change_6 rfl ?_
  refine ob hf (fun q_2 hq_2 hf => ?_)
  refine g_callVFi cx lk_RX12_185 (c_X12_isLine l D cB cI cJ cZ o s_o_1 x1 q_2 hq_2) rfl (ci := 10) (q1 := 0) rfl rfl rfl (Nat.le_of_ble_eq_true rfl) ⟨rfl, rfl, Nat.le_of_ble_eq_true rfl, Nat.le_of_ble_eq_true rfl⟩ dX12_change_7 ?_
  refine g_if_eq (tgt := 21) cx hf dX12_change_10 rfl (fun hf => ?_) (fun hf => ?_)
  · refine g_ic cx dX12_change_21 k_icm1 ?_
    exact g_iret (ovf := fun (r : Int32 × SM) => (some (.int r.1))) (wf := fun (r : Int32 × SM) => (wX12 o cB cI cJ cZ r.2)) cx hA hr hf rfl rfl dX12_change_22
  · refine g_aln cx 0 dX12_change_13 rfl ?_
    refine g_iln cx 2 dX12_change_14 rfl ?_
    refine ob hf (fun q_3 hq_3 hf => ?_)
    refine g_callVFi cx lk_RX12_175 (c_X12_isWord l D cB cI cJ cZ o s_o_1 x2 q_3 hq_3) rfl (ci := 10) (q1 := 0) rfl rfl rfl (Nat.le_of_ble_eq_true rfl) ⟨rfl, rfl, Nat.le_of_ble_eq_true rfl, Nat.le_of_ble_eq_true rfl⟩ dX12_change_15 ?_
    refine g_if_ne (tgt := 23) cx hf dX12_change_18 rfl (fun hf => ?_) (fun hf => ?_)
    · refine g_aln cx 0 dX12_change_23 rfl ?_
      refine mg_s cx dX12_change_24 ?_
      refine g_ic cx dX12_change_27 k_ic1 ?_
      refine g_ic cx dX12_change_28 k_ic3 ?_
      refine g_iln cx 1 dX12_change_29 rfl ?_
      refine g_imul cx dX12_change_30 ?_
      refine g_iadd cx dX12_change_31 ?_
      refine ml_s cx hf dX12_change_32 (fun e_4 hf => ?_)
      refine g_isn cx (L2 := fun v3_5 => [(3, .int v3_5), (0, .ref (o 0)), (1, .int x1), (2, .int x2)]) hf dX12_change_33 (Nat.le_of_ble_eq_true rfl) (fun _ => rfl) (fun v3_5 hf => ?_)
      refine g_aln cx 1 dX12_change_34 rfl ?_
      refine mg_s cx dX12_change_35 ?_
      refine g_ic cx dX12_change_38 k_ic1 ?_
      refine g_ic cx dX12_change_39 k_ic3 ?_
      refine g_iln cx 2 dX12_change_40 rfl ?_
      refine g_imul cx dX12_change_41 ?_
      refine g_iadd cx dX12_change_42 ?_
      refine g_iln cx 3 dX12_change_43 rfl ?_
      refine ms_s cx hf dX12_change_44 (fun s_o_7 hf => ?_)
      refine g_iln cx 0 dX12_change_45 rfl ?_
      exact g_iret (ovf := fun (r : Int32 × SM) => (some (.int r.1))) (wf := fun (r : Int32 × SM) => (wX12 o cB cI cJ cZ r.2)) cx hA hr hf rfl rfl dX12_change_46
    · refine g_ic cx dX12_change_21 k_icm1 ?_
      exact g_iret (ovf := fun (r : Int32 × SM) => (some (.int r.1))) (wf := fun (r : Int32 × SM) => (wX12 o cB cI cJ cZ r.2)) cx hA hr hf rfl rfl dX12_change_22
theorem dX12_take_0 : decode cX12_take 0 = .ok (.aload_n 0, 1) := by decide +kernel
theorem dX12_take_1 : decode cX12_take 1 = .ok (.iconst 0, 1) := by decide +kernel
theorem dX12_take_2 : decode cX12_take 2 = .ok (.putfield 78, 3) := by decide +kernel
theorem dX12_take_5 : decode cX12_take 5 = .ok (.aload_n 0, 1) := by decide +kernel
theorem dX12_take_6 : decode cX12_take 6 = .ok (.iload_n 1, 1) := by decide +kernel
theorem dX12_take_7 : decode cX12_take 7 = .ok (.invokevirtual 185, 3) := by decide +kernel
theorem dX12_take_10 : decode cX12_take 10 = .ok (.ifCond .ne 5, 3) := by decide +kernel
theorem dX12_take_13 : decode cX12_take 13 = .ok (.iconst (-1), 1) := by decide +kernel
theorem dX12_take_14 : decode cX12_take 14 = .ok (.ireturn, 1) := by decide +kernel
theorem dX12_take_15 : decode cX12_take 15 = .ok (.iconst 3, 1) := by decide +kernel
theorem dX12_take_16 : decode cX12_take 16 = .ok (.iload_n 1, 1) := by decide +kernel
theorem dX12_take_17 : decode cX12_take 17 = .ok (.imul, 1) := by decide +kernel
theorem dX12_take_18 : decode cX12_take 18 = .ok (.istore_n 2, 1) := by decide +kernel
theorem dX12_take_19 : decode cX12_take 19 = .ok (.iload_n 2, 1) := by decide +kernel
theorem dX12_take_20 : decode cX12_take 20 = .ok (.iconst 3, 1) := by decide +kernel
theorem dX12_take_21 : decode cX12_take 21 = .ok (.aload_n 0, 1) := by decide +kernel
theorem dX12_take_22 : decode cX12_take 22 = .ok (.getfield 28, 3) := by decide +kernel
theorem dX12_take_25 : decode cX12_take 25 = .ok (.iconst 0, 1) := by decide +kernel
theorem dX12_take_26 : decode cX12_take 26 = .ok (.iaload, 1) := by decide +kernel
theorem dX12_take_27 : decode cX12_take 27 = .ok (.imul, 1) := by decide +kernel
theorem dX12_take_28 : decode cX12_take 28 = .ok (.iconst 3, 1) := by decide +kernel
theorem dX12_take_29 : decode cX12_take 29 = .ok (.isub, 1) := by decide +kernel
theorem dX12_take_30 : decode cX12_take 30 = .ok (.if_icmp .ge 25, 3) := by decide +kernel
theorem dX12_take_33 : decode cX12_take 33 = .ok (.aload_n 0, 1) := by decide +kernel
theorem dX12_take_34 : decode cX12_take 34 = .ok (.getfield 28, 3) := by decide +kernel
theorem dX12_take_37 : decode cX12_take 37 = .ok (.iconst 1, 1) := by decide +kernel
theorem dX12_take_38 : decode cX12_take 38 = .ok (.iload_n 2, 1) := by decide +kernel
theorem dX12_take_39 : decode cX12_take 39 = .ok (.iadd, 1) := by decide +kernel
theorem dX12_take_40 : decode cX12_take 40 = .ok (.aload_n 0, 1) := by decide +kernel
theorem dX12_take_41 : decode cX12_take 41 = .ok (.getfield 28, 3) := by decide +kernel
theorem dX12_take_44 : decode cX12_take 44 = .ok (.iconst 4, 1) := by decide +kernel
theorem dX12_take_45 : decode cX12_take 45 = .ok (.iload_n 2, 1) := by decide +kernel
theorem dX12_take_46 : decode cX12_take 46 = .ok (.iadd, 1) := by decide +kernel
theorem dX12_take_47 : decode cX12_take 47 = .ok (.iaload, 1) := by decide +kernel
theorem dX12_take_48 : decode cX12_take 48 = .ok (.iastore, 1) := by decide +kernel
theorem dX12_take_49 : decode cX12_take 49 = .ok (.iinc 2 1, 3) := by decide +kernel
theorem dX12_take_52 : decode cX12_take 52 = .ok (.goto (-33), 3) := by decide +kernel
theorem dX12_take_55 : decode cX12_take 55 = .ok (.aload_n 0, 1) := by decide +kernel
theorem dX12_take_56 : decode cX12_take 56 = .ok (.getfield 28, 3) := by decide +kernel
theorem dX12_take_59 : decode cX12_take 59 = .ok (.iconst 0, 1) := by decide +kernel
theorem dX12_take_60 : decode cX12_take 60 = .ok (.dup2, 1) := by decide +kernel
theorem dX12_take_61 : decode cX12_take 61 = .ok (.iaload, 1) := by decide +kernel
theorem dX12_take_62 : decode cX12_take 62 = .ok (.iconst 1, 1) := by decide +kernel
theorem dX12_take_63 : decode cX12_take 63 = .ok (.isub, 1) := by decide +kernel
theorem dX12_take_64 : decode cX12_take 64 = .ok (.iastore, 1) := by decide +kernel
theorem dX12_take_65 : decode cX12_take 65 = .ok (.aload_n 0, 1) := by decide +kernel
theorem dX12_take_66 : decode cX12_take 66 = .ok (.getfield 28, 3) := by decide +kernel
theorem dX12_take_69 : decode cX12_take 69 = .ok (.iconst 0, 1) := by decide +kernel
theorem dX12_take_70 : decode cX12_take 70 = .ok (.iaload, 1) := by decide +kernel
theorem dX12_take_71 : decode cX12_take 71 = .ok (.ireturn, 1) := by decide +kernel


def F_X12_take_b19 (x1 : Int32) : Nat → Int32 → SM → Option (Int32 × SM)
  | 0, _, _ => none
  | n + 1, v2, zs_o => (aget 25 (mA zs_o 21) 0).bind fun e_1 => (if ((3 * e_1) - 3) ≤ v2 then (aget 25 (mA zs_o 21) 0).bind fun e_2 => (aset 25 (mA zs_o 21) 0 (e_2 - 1)).bind fun f_3 => nm (mAs zs_o 21 f_3) fun s_o_4 => (aget 25 (mA s_o_4 21) 0).bind fun e_5 => some (e_5, s_o_4) else (aget 25 (mA zs_o 21) (4 + v2)).bind fun e_6 => (aset 25 (mA zs_o 21) (1 + v2) e_6).bind fun f_7 => nm (mAs zs_o 21 f_7) fun s_o_8 => nm (v2 + 1) fun v2_9 => (F_X12_take_b19 x1 n) v2_9 s_o_8)
def F_X12_take (s_o : SM) (x1 : Int32) : Option (Int32 × SM) := nm (mIs s_o 0 0) fun s_o_10 => (F_X12_isLine s_o_10 x1).bind fun q_11 => (if q_11 = 0 then some ((-1), s_o_10) else nm (3 * x1) fun v2_12 => F_X12_take_b19 x1 fu v2_12 s_o_10)

abbrev rm_X12_take : Room := { frames := 2, cells := 0, slots := 0, locals := 43 }
set_option maxHeartbeats 4000000 in
set_option maxRecDepth 100000 in
theorem c_X12_take (l : Launch) (D : gG) (cB cI cJ cZ : ClassId) (o : Nat → Nat) (s_o : SM) (x1 : Int32) (r : Int32 × SM) (hf : F_X12_take s_o x1 = some r) : gM l D (tyL cB cI cJ cZ) yX12_take cX12_take 3 (some .int) rm_X12_take [.ref (o 0), .int x1] (wX12 o cB cI cJ cZ s_o) (some (.int r.1)) (wX12 o cB cI cJ cZ r.2) := by
  refine met_of (by decide) (Nat.le_of_ble_eq_true rfl) ?_
  intro p e s m args below meth c A cx hr hA
  show gW p l e rm_X12_take s m args below meth c D A 3 _ 0 0 _ [(0, .ref (o 0)), (1, .int x1)] 0 []
  have h19 : ∀ (n : Nat) (v2 : Int32) (zs_o : SM), F_X12_take_b19 x1 n v2 zs_o = some r → gW p l e rm_X12_take s m args below meth c D A 3 (MQ below (QM D (tyL cB cI cJ cZ) (some (.int r.1)) (wX12 o cB cI cJ cZ s_o) (wX12 o cB cI cJ cZ r.2) s.heap.size) args s 0 0 A) 0 0 (wX12 o cB cI cJ cZ zs_o) [(0, .ref (o 0)), (2, .int v2)] 19 [] := by
    intro n
    induction n with
    | zero => intro v2 zs_o hf; rw [F_X12_take_b19] at hf; cases hf
    | succ n ih =>
      intro v2 zs_o hf
      rw [F_X12_take_b19] at hf
      refine g_iln cx 1 dX12_take_19 rfl ?_
      refine g_ic cx dX12_take_20 k_ic3 ?_
      refine g_aln cx 0 dX12_take_21 rfl ?_
      refine mg_s cx dX12_take_22 ?_
      refine g_ic cx dX12_take_25 k_ic0 ?_
      refine ml_s cx hf dX12_take_26 (fun e_1 hf => ?_)
      refine g_imul cx dX12_take_27 ?_
      refine g_ic cx dX12_take_28 k_ic3 ?_
      refine g_isub cx dX12_take_29 ?_
      refine g_ic_ge (tgt := 55) cx hf dX12_take_30 rfl (fun hf => ?_) (fun hf => ?_)
      · refine g_aln cx 0 dX12_take_55 rfl ?_
        refine mg_s cx dX12_take_56 ?_
        refine g_ic cx dX12_take_59 k_ic0 ?_
        refine g_dup2 cx dX12_take_60 rfl rfl ?_
        refine ml_s cx hf dX12_take_61 (fun e_2 hf => ?_)
        refine g_ic cx dX12_take_62 k_ic1 ?_
        refine g_isub cx dX12_take_63 ?_
        refine ms_s cx hf dX12_take_64 (fun s_o_4 hf => ?_)
        refine g_aln cx 0 dX12_take_65 rfl ?_
        refine mg_s cx dX12_take_66 ?_
        refine g_ic cx dX12_take_69 k_ic0 ?_
        refine ml_s cx hf dX12_take_70 (fun e_5 hf => ?_)
        exact g_iret (ovf := fun (r : Int32 × SM) => (some (.int r.1))) (wf := fun (r : Int32 × SM) => (wX12 o cB cI cJ cZ r.2)) cx hA hr hf rfl rfl dX12_take_71
      · refine g_aln cx 0 dX12_take_33 rfl ?_
        refine mg_s cx dX12_take_34 ?_
        refine g_ic cx dX12_take_37 k_ic1 ?_
        refine g_iln cx 1 dX12_take_38 rfl ?_
        refine g_iadd cx dX12_take_39 ?_
        refine g_aln cx 0 dX12_take_40 rfl ?_
        refine mg_s cx dX12_take_41 ?_
        refine g_ic cx dX12_take_44 k_ic4 ?_
        refine g_iln cx 1 dX12_take_45 rfl ?_
        refine g_iadd cx dX12_take_46 ?_
        refine ml_s cx hf dX12_take_47 (fun e_6 hf => ?_)
        refine ms_s cx hf dX12_take_48 (fun s_o_8 hf => ?_)
        refine g_inc cx (L2 := fun v2_9 => [(2, .int v2_9), (0, .ref (o 0))]) 1 hf dX12_take_49 rfl (k_inc1 _) (Nat.le_of_ble_eq_true rfl) (fun _ => rfl) (fun v2_9 hf => ?_)
        refine g_goto (tgt := 19) cx dX12_take_52 rfl ?_
        refine g_sub [1, 0] rfl ?_
        exact ih _ _ hf
  rw [F_X12_take] at hf
  refine g_aln cx 0 dX12_take_0 rfl ?_
  refine g_ic cx dX12_take_1 k_ic0 ?_
  refine mp_thrown cx hf dX12_take_2 (fun s_o_10 hf => ?_)
  refine g_aln cx 0 dX12_take_5 rfl ?_
  refine g_iln cx 1 dX12_take_6 rfl ?_
  refine ob hf (fun q_11 hq_11 hf => ?_)
  refine g_callVFi cx lk_RX12_185 (c_X12_isLine l D cB cI cJ cZ o s_o_10 x1 q_11 hq_11) rfl (ci := 10) (q1 := 0) rfl rfl rfl (Nat.le_of_ble_eq_true rfl) ⟨rfl, rfl, Nat.le_of_ble_eq_true rfl, Nat.le_of_ble_eq_true rfl⟩ dX12_take_7 ?_
  refine g_if_ne (tgt := 15) cx hf dX12_take_10 rfl (fun hf => ?_) (fun hf => ?_)
  · refine g_ic cx dX12_take_15 k_ic3 ?_
    refine g_iln cx 1 dX12_take_16 rfl ?_
    refine g_imul cx dX12_take_17 ?_
    refine g_isn cx (L2 := fun v2_12 => [(2, .int v2_12), (0, .ref (o 0)), (1, .int x1)]) hf dX12_take_18 (Nat.le_of_ble_eq_true rfl) (fun _ => rfl) (fun v2_12 hf => ?_)
    refine g_sub [1, 0] rfl ?_
    exact h19 fu _ _ hf
  · refine g_ic cx dX12_take_13 k_icm1 ?_
    exact g_iret (ovf := fun (r : Int32 × SM) => (some (.int r.1))) (wf := fun (r : Int32 × SM) => (wX12 o cB cI cJ cZ r.2)) cx hA hr hf rfl rfl dX12_take_14
theorem dX12_lays_0 : decode cX12_lays 0 = .ok (.aload_n 0, 1) := by decide +kernel
theorem dX12_lays_1 : decode cX12_lays 1 = .ok (.aload_n 0, 1) := by decide +kernel
theorem dX12_lays_2 : decode cX12_lays 2 = .ok (.getfield 28, 3) := by decide +kernel
theorem dX12_lays_5 : decode cX12_lays 5 = .ok (.iconst 0, 1) := by decide +kernel
theorem dX12_lays_6 : decode cX12_lays 6 = .ok (.iaload, 1) := by decide +kernel
theorem dX12_lays_7 : decode cX12_lays 7 = .ok (.putfield 188, 3) := by decide +kernel
theorem dX12_lays_10 : decode cX12_lays 10 = .ok (.iconst 0, 1) := by decide +kernel
theorem dX12_lays_11 : decode cX12_lays 11 = .ok (.istore_n 1, 1) := by decide +kernel
theorem dX12_lays_12 : decode cX12_lays 12 = .ok (.iload_n 1, 1) := by decide +kernel
theorem dX12_lays_13 : decode cX12_lays 13 = .ok (.iconst 3, 1) := by decide +kernel
theorem dX12_lays_14 : decode cX12_lays 14 = .ok (.aload_n 0, 1) := by decide +kernel
theorem dX12_lays_15 : decode cX12_lays 15 = .ok (.getfield 188, 3) := by decide +kernel
theorem dX12_lays_18 : decode cX12_lays 18 = .ok (.imul, 1) := by decide +kernel
theorem dX12_lays_19 : decode cX12_lays 19 = .ok (.if_icmp .ge 23, 3) := by decide +kernel
theorem dX12_lays_22 : decode cX12_lays 22 = .ok (.aload_n 0, 1) := by decide +kernel
theorem dX12_lays_23 : decode cX12_lays 23 = .ok (.getfield 38, 3) := by decide +kernel
theorem dX12_lays_26 : decode cX12_lays 26 = .ok (.iload_n 1, 1) := by decide +kernel
theorem dX12_lays_27 : decode cX12_lays 27 = .ok (.aload_n 0, 1) := by decide +kernel
theorem dX12_lays_28 : decode cX12_lays 28 = .ok (.getfield 28, 3) := by decide +kernel
theorem dX12_lays_31 : decode cX12_lays 31 = .ok (.iconst 1, 1) := by decide +kernel
theorem dX12_lays_32 : decode cX12_lays 32 = .ok (.iload_n 1, 1) := by decide +kernel
theorem dX12_lays_33 : decode cX12_lays 33 = .ok (.iadd, 1) := by decide +kernel
theorem dX12_lays_34 : decode cX12_lays 34 = .ok (.iaload, 1) := by decide +kernel
theorem dX12_lays_35 : decode cX12_lays 35 = .ok (.iastore, 1) := by decide +kernel
theorem dX12_lays_36 : decode cX12_lays 36 = .ok (.iinc 1 1, 3) := by decide +kernel
theorem dX12_lays_39 : decode cX12_lays 39 = .ok (.goto (-27), 3) := by decide +kernel
theorem dX12_lays_42 : decode cX12_lays 42 = .ok (.return_, 1) := by decide +kernel
theorem q5_7 : Cond.fieldLink RX12 38 "RhymeLawModel" "tried" "[I" ∈ TT := tq5 7 rfl rfl
theorem q5_8 : Cond.fieldLink RX12 188 "RhymeLawModel" "many" "I" ∈ TT := tq5 8 rfl rfl
theorem fg_RX12_188 {p : Program} {l : Launch} {e : Env} {R : Room} {s : State} {m : MethodId} {args : Array Value} {below : List Frame} {meth : Method} {c : Code} {D : gG} {tys : List (ClassId × FieldType)} {A : Nat → Prop} {nL : Nat} {Q : State → Prop} {cells slots : Nat} {cc : ByteArray} {ws : va_W} {L : List (Nat × Value)} {pc : Nat} {stk : List Value} (cx : gX p s m args meth c cc nL RX12 D tys A) {a : Nat} {fs : List Value} {v : Value} (q0 : Nat) (he : ws[q0]? = some (a, .inr (10, fs))) (hv : fs[25]? = some v) (hd : decode cc pc = .ok (.getfield 188, 3)) (kk : gW p l e R s m args below meth c D A nL Q cells slots ws L (pc + 3) (v :: stk)) : gW p l e R s m args below meth c D A nL Q cells slots ws L pc (.ref a :: stk) :=
  g_get cx (C := RX12) (T := TX12) (N := 38) inT12 rfl 25 (Nat.le_of_ble_eq_true rfl) q5_8 rfl q0 he hv hd kk
theorem mg_many {p : Program} {l : Launch} {e : Env} {R : Room} {s : State} {m : MethodId} {args : Array Value} {below : List Frame} {meth : Method} {c : Code} {D : gG} {A : Nat → Prop} {nL : Nat} {Q : State → Prop} {cells slots : Nat} {cc : ByteArray} {L : List (Nat × Value)} {pc : Nat} {stk : List Value} {o : Nat → Nat} {cB cI cJ cZ : ClassId} {z : SM} (cx : gX p s m args meth c cc nL RX12 D (tyL cB cI cJ cZ) A) (hd : decode cc pc = .ok (.getfield 188, 3)) (kk : gW p l e R s m args below meth c D A nL Q cells slots (wX12 o cB cI cJ cZ z) L (pc + 3) (.int (mI z 25) :: stk)) : gW p l e R s m args below meth c D A nL Q cells slots (wX12 o cB cI cJ cZ z) L pc (.ref (o 0) :: stk) :=
  fg_RX12_188 cx 0 rfl rfl hd kk
theorem fg_RX12_38 {p : Program} {l : Launch} {e : Env} {R : Room} {s : State} {m : MethodId} {args : Array Value} {below : List Frame} {meth : Method} {c : Code} {D : gG} {tys : List (ClassId × FieldType)} {A : Nat → Prop} {nL : Nat} {Q : State → Prop} {cells slots : Nat} {cc : ByteArray} {ws : va_W} {L : List (Nat × Value)} {pc : Nat} {stk : List Value} (cx : gX p s m args meth c cc nL RX12 D tys A) {a : Nat} {fs : List Value} {v : Value} (q0 : Nat) (he : ws[q0]? = some (a, .inr (10, fs))) (hv : fs[24]? = some v) (hd : decode cc pc = .ok (.getfield 38, 3)) (kk : gW p l e R s m args below meth c D A nL Q cells slots ws L (pc + 3) (v :: stk)) : gW p l e R s m args below meth c D A nL Q cells slots ws L pc (.ref a :: stk) :=
  g_get cx (C := RX12) (T := TX12) (N := 38) inT12 rfl 24 (Nat.le_of_ble_eq_true rfl) q5_7 rfl q0 he hv hd kk
theorem mg_tried {p : Program} {l : Launch} {e : Env} {R : Room} {s : State} {m : MethodId} {args : Array Value} {below : List Frame} {meth : Method} {c : Code} {D : gG} {A : Nat → Prop} {nL : Nat} {Q : State → Prop} {cells slots : Nat} {cc : ByteArray} {L : List (Nat × Value)} {pc : Nat} {stk : List Value} {o : Nat → Nat} {cB cI cJ cZ : ClassId} {z : SM} (cx : gX p s m args meth c cc nL RX12 D (tyL cB cI cJ cZ) A) (hd : decode cc pc = .ok (.getfield 38, 3)) (kk : gW p l e R s m args below meth c D A nL Q cells slots (wX12 o cB cI cJ cZ z) L (pc + 3) (.ref (o 10) :: stk)) : gW p l e R s m args below meth c D A nL Q cells slots (wX12 o cB cI cJ cZ z) L pc (.ref (o 0) :: stk) :=
  fg_RX12_38 cx 0 rfl rfl hd kk
theorem ms_tried {p : Program} {l : Launch} {e : Env} {R : Room} {s : State} {m : MethodId} {args : Array Value} {below : List Frame} {meth : Method} {c : Code} {D : gG} {A : Nat → Prop} {nL : Nat} {Q : State → Prop} {cells slots : Nat} {cc : ByteArray} {L : List (Nat × Value)} {pc : Nat} {stk : List Value} {β : Type} {r : β} {o : Nat → Nat} {cB cI cJ cZ : ClassId} {z : SM} (cx : gX p s m args meth c cc nL RX12 D (tyL cB cI cJ cZ) A) {i : Int32} {x : Int32} {kf : SM → Option β} (hf : ((aset 27 (mA z 24) i x).bind fun f => nm (mAs z 24 f) kf) = some r) (hd : decode cc pc = .ok (.iastore, 1)) (kk : ∀ y : SM, kf y = some r → gW p l e R s m args below meth c D A nL Q cells slots (wX12 o cB cI cJ cZ y) L (pc + 1) stk) : gW p l e R s m args below meth c D A nL Q cells slots (wX12 o cB cI cJ cZ z) L pc (.int x :: .int i :: .ref (o 10) :: stk) :=
  g_iast cx 10 1 (ws' := fun f => wX12 o cB cI cJ cZ (mAs z 24 f)) hf rfl rfl (fun _ => rfl) hd (fun _ hf => kk _ hf)
theorem fp_RX12_188 {p : Program} {l : Launch} {e : Env} {R : Room} {s : State} {m : MethodId} {args : Array Value} {below : List Frame} {meth : Method} {c : Code} {D : gG} {tys : List (ClassId × FieldType)} {A : Nat → Prop} {nL : Nat} {Q : State → Prop} {cells slots : Nat} {cc : ByteArray} {ws : va_W} {L : List (Nat × Value)} {pc : Nat} {stk : List Value} (cx : gX p s m args meth c cc nL RX12 D tys A) {a : Nat} {fs : List Value} {x : Int32} (q0 : Nat) (he : ws[q0]? = some (a, .inr (10, fs))) (hl : 25 < fs.length) {ws' : va_W} (hw : ws.set q0 (a, .inr (10, fs.set 25 (.int x))) = ws') (hd : decode cc pc = .ok (.putfield 188, 3)) (kk : gW p l e R s m args below meth c D A nL Q cells slots ws' L (pc + 3) stk) : gW p l e R s m args below meth c D A nL Q cells slots ws L pc (.int x :: .ref a :: stk) :=
  g_put cx (C := RX12) (T := TX12) (N := 38) (ty0 := tyX12) (ty := .int) inT12 tyX12_ok nmX12 rfl 25 (Nat.le_of_ble_eq_true rfl) q5_8 rfl rfl rfl rfl rfl q0 he hl hw hd kk
theorem mp_many {p : Program} {l : Launch} {e : Env} {R : Room} {s : State} {m : MethodId} {args : Array Value} {below : List Frame} {meth : Method} {c : Code} {D : gG} {A : Nat → Prop} {nL : Nat} {Q : State → Prop} {cells slots : Nat} {cc : ByteArray} {L : List (Nat × Value)} {pc : Nat} {stk : List Value} {β : Type} {r : β} {o : Nat → Nat} {cB cI cJ cZ : ClassId} {z : SM} (cx : gX p s m args meth c cc nL RX12 D (tyL cB cI cJ cZ) A) {x : Int32} {kf : SM → Option β} (hf : nm (mIs z 25 x) kf = some r) (hd : decode cc pc = .ok (.putfield 188, 3)) (kk : ∀ y : SM, kf y = some r → gW p l e R s m args below meth c D A nL Q cells slots (wX12 o cB cI cJ cZ y) L (pc + 3) stk) : gW p l e R s m args below meth c D A nL Q cells slots (wX12 o cB cI cJ cZ z) L pc (.int x :: .ref (o 0) :: stk) :=
  fp_RX12_188 cx 0 rfl (Nat.le_of_ble_eq_true rfl) (ws' := wX12 o cB cI cJ cZ (mIs z 25 x)) rfl hd (kk _ hf)
def F_X12_lays_b12 : Nat → Int32 → SM → Option (SM)
  | 0, _, _ => none
  | n + 1, v1, zs_o => (if (3 * (mI zs_o 25)) ≤ v1 then some (zs_o) else (aget 25 (mA zs_o 21) (1 + v1)).bind fun e_1 => (aset 27 (mA zs_o 24) v1 e_1).bind fun f_2 => nm (mAs zs_o 24 f_2) fun s_o_3 => nm (v1 + 1) fun v1_4 => (F_X12_lays_b12  n) v1_4 s_o_3)
def F_X12_lays (s_o : SM) : Option (SM) := (aget 25 (mA s_o 21) 0).bind fun e_5 => nm (mIs s_o 25 e_5) fun s_o_6 => nm 0 fun v1_7 => F_X12_lays_b12  fu v1_7 s_o_6

abbrev rm_X12_lays : Room := { frames := 0, cells := 0, slots := 0, locals := 0 }
set_option maxHeartbeats 4000000 in
set_option maxRecDepth 100000 in
theorem c_X12_lays (l : Launch) (D : gG) (cB cI cJ cZ : ClassId) (o : Nat → Nat) (s_o : SM) (r : SM) (hf : F_X12_lays s_o = some r) : gM l D (tyL cB cI cJ cZ) yX12_lays cX12_lays 2 none rm_X12_lays [.ref (o 0)] (wX12 o cB cI cJ cZ s_o) none (wX12 o cB cI cJ cZ r) := by
  refine met_of (by decide) (Nat.le_of_ble_eq_true rfl) ?_
  intro p e s m args below meth c A cx hr hA
  show gW p l e rm_X12_lays s m args below meth c D A 2 _ 0 0 _ [(0, .ref (o 0))] 0 []
  have h12 : ∀ (n : Nat) (v1 : Int32) (zs_o : SM), F_X12_lays_b12  n v1 zs_o = some r → gW p l e rm_X12_lays s m args below meth c D A 2 (MQ below (QM D (tyL cB cI cJ cZ) none (wX12 o cB cI cJ cZ s_o) (wX12 o cB cI cJ cZ r) s.heap.size) args s 0 0 A) 0 0 (wX12 o cB cI cJ cZ zs_o) [(0, .ref (o 0)), (1, .int v1)] 12 [] := by
    intro n
    induction n with
    | zero => intro v1 zs_o hf; rw [F_X12_lays_b12] at hf; cases hf
    | succ n ih =>
      intro v1 zs_o hf
      rw [F_X12_lays_b12] at hf
      refine g_iln cx 1 dX12_lays_12 rfl ?_
      refine g_ic cx dX12_lays_13 k_ic3 ?_
      refine g_aln cx 0 dX12_lays_14 rfl ?_
      refine mg_many cx dX12_lays_15 ?_
      refine g_imul cx dX12_lays_18 ?_
      refine g_ic_ge (tgt := 42) cx hf dX12_lays_19 rfl (fun hf => ?_) (fun hf => ?_)
      · exact g_vret (ovf := fun (r : SM) => none) (wf := fun (r : SM) => (wX12 o cB cI cJ cZ r)) cx hA hr hf rfl rfl dX12_lays_42
      · refine g_aln cx 0 dX12_lays_22 rfl ?_
        refine mg_tried cx dX12_lays_23 ?_
        refine g_iln cx 1 dX12_lays_26 rfl ?_
        refine g_aln cx 0 dX12_lays_27 rfl ?_
        refine mg_s cx dX12_lays_28 ?_
        refine g_ic cx dX12_lays_31 k_ic1 ?_
        refine g_iln cx 1 dX12_lays_32 rfl ?_
        refine g_iadd cx dX12_lays_33 ?_
        refine ml_s cx hf dX12_lays_34 (fun e_1 hf => ?_)
        refine ms_tried cx hf dX12_lays_35 (fun s_o_3 hf => ?_)
        refine g_inc cx (L2 := fun v1_4 => [(1, .int v1_4), (0, .ref (o 0))]) 1 hf dX12_lays_36 rfl (k_inc1 _) (Nat.le_of_ble_eq_true rfl) (fun _ => rfl) (fun v1_4 hf => ?_)
        refine g_goto (tgt := 12) cx dX12_lays_39 rfl ?_
        refine g_sub [1, 0] rfl ?_
        exact ih _ _ hf
  rw [F_X12_lays] at hf
  refine g_aln cx 0 dX12_lays_0 rfl ?_
  refine g_aln cx 0 dX12_lays_1 rfl ?_
  refine mg_s cx dX12_lays_2 ?_
  refine g_ic cx dX12_lays_5 k_ic0 ?_
  refine ml_s cx hf dX12_lays_6 (fun e_5 hf => ?_)
  refine mp_many cx hf dX12_lays_7 (fun s_o_6 hf => ?_)
  refine g_ic cx dX12_lays_10 k_ic0 ?_
  refine g_isn cx (L2 := fun v1_7 => [(1, .int v1_7), (0, .ref (o 0))]) hf dX12_lays_11 (Nat.le_of_ble_eq_true rfl) (fun _ => rfl) (fun v1_7 hf => ?_)
  refine g_sub [1, 0] rfl ?_
  exact h12 fu _ _ hf
theorem dX12_hears_0 : decode cX12_hears 0 = .ok (.iconst 0, 1) := by decide +kernel
theorem dX12_hears_1 : decode cX12_hears 1 = .ok (.istore_n 2, 1) := by decide +kernel
theorem dX12_hears_2 : decode cX12_hears 2 = .ok (.iload_n 2, 1) := by decide +kernel
theorem dX12_hears_3 : decode cX12_hears 3 = .ok (.bipush 16, 2) := by decide +kernel
theorem dX12_hears_5 : decode cX12_hears 5 = .ok (.if_icmp .ge 25, 3) := by decide +kernel
theorem dX12_hears_8 : decode cX12_hears 8 = .ok (.aload_n 0, 1) := by decide +kernel
theorem dX12_hears_9 : decode cX12_hears 9 = .ok (.getfield 56, 3) := by decide +kernel
theorem dX12_hears_12 : decode cX12_hears 12 = .ok (.iload_n 2, 1) := by decide +kernel
theorem dX12_hears_13 : decode cX12_hears 13 = .ok (.aload_n 0, 1) := by decide +kernel
theorem dX12_hears_14 : decode cX12_hears 14 = .ok (.getfield 13, 3) := by decide +kernel
theorem dX12_hears_17 : decode cX12_hears 17 = .ok (.iconst 4, 1) := by decide +kernel
theorem dX12_hears_18 : decode cX12_hears 18 = .ok (.iload_n 2, 1) := by decide +kernel
theorem dX12_hears_19 : decode cX12_hears 19 = .ok (.imul, 1) := by decide +kernel
theorem dX12_hears_20 : decode cX12_hears 20 = .ok (.iload_n 1, 1) := by decide +kernel
theorem dX12_hears_21 : decode cX12_hears 21 = .ok (.iadd, 1) := by decide +kernel
theorem dX12_hears_22 : decode cX12_hears 22 = .ok (.iaload, 1) := by decide +kernel
theorem dX12_hears_23 : decode cX12_hears 23 = .ok (.iastore, 1) := by decide +kernel
theorem dX12_hears_24 : decode cX12_hears 24 = .ok (.iinc 2 1, 3) := by decide +kernel
theorem dX12_hears_27 : decode cX12_hears 27 = .ok (.goto (-25), 3) := by decide +kernel
theorem dX12_hears_30 : decode cX12_hears 30 = .ok (.return_, 1) := by decide +kernel
theorem q5_14 : Cond.fieldLink RX12 56 "RhymeLawModel" "sound" "[I" ∈ TT := tq5 14 rfl rfl
theorem fg_RX12_56 {p : Program} {l : Launch} {e : Env} {R : Room} {s : State} {m : MethodId} {args : Array Value} {below : List Frame} {meth : Method} {c : Code} {D : gG} {tys : List (ClassId × FieldType)} {A : Nat → Prop} {nL : Nat} {Q : State → Prop} {cells slots : Nat} {cc : ByteArray} {ws : va_W} {L : List (Nat × Value)} {pc : Nat} {stk : List Value} (cx : gX p s m args meth c cc nL RX12 D tys A) {a : Nat} {fs : List Value} {v : Value} (q0 : Nat) (he : ws[q0]? = some (a, .inr (10, fs))) (hv : fs[31]? = some v) (hd : decode cc pc = .ok (.getfield 56, 3)) (kk : gW p l e R s m args below meth c D A nL Q cells slots ws L (pc + 3) (v :: stk)) : gW p l e R s m args below meth c D A nL Q cells slots ws L pc (.ref a :: stk) :=
  g_get cx (C := RX12) (T := TX12) (N := 38) inT12 rfl 31 (Nat.le_of_ble_eq_true rfl) q5_14 rfl q0 he hv hd kk
theorem mg_sound {p : Program} {l : Launch} {e : Env} {R : Room} {s : State} {m : MethodId} {args : Array Value} {below : List Frame} {meth : Method} {c : Code} {D : gG} {A : Nat → Prop} {nL : Nat} {Q : State → Prop} {cells slots : Nat} {cc : ByteArray} {L : List (Nat × Value)} {pc : Nat} {stk : List Value} {o : Nat → Nat} {cB cI cJ cZ : ClassId} {z : SM} (cx : gX p s m args meth c cc nL RX12 D (tyL cB cI cJ cZ) A) (hd : decode cc pc = .ok (.getfield 56, 3)) (kk : gW p l e R s m args below meth c D A nL Q cells slots (wX12 o cB cI cJ cZ z) L (pc + 3) (.ref (o 16) :: stk)) : gW p l e R s m args below meth c D A nL Q cells slots (wX12 o cB cI cJ cZ z) L pc (.ref (o 0) :: stk) :=
  fg_RX12_56 cx 0 rfl rfl hd kk
theorem ms_sound {p : Program} {l : Launch} {e : Env} {R : Room} {s : State} {m : MethodId} {args : Array Value} {below : List Frame} {meth : Method} {c : Code} {D : gG} {A : Nat → Prop} {nL : Nat} {Q : State → Prop} {cells slots : Nat} {cc : ByteArray} {L : List (Nat × Value)} {pc : Nat} {stk : List Value} {β : Type} {r : β} {o : Nat → Nat} {cB cI cJ cZ : ClassId} {z : SM} (cx : gX p s m args meth c cc nL RX12 D (tyL cB cI cJ cZ) A) {i : Int32} {x : Int32} {kf : SM → Option β} (hf : ((aset 16 (mA z 31) i x).bind fun f => nm (mAs z 31 f) kf) = some r) (hd : decode cc pc = .ok (.iastore, 1)) (kk : ∀ y : SM, kf y = some r → gW p l e R s m args below meth c D A nL Q cells slots (wX12 o cB cI cJ cZ y) L (pc + 1) stk) : gW p l e R s m args below meth c D A nL Q cells slots (wX12 o cB cI cJ cZ z) L pc (.int x :: .int i :: .ref (o 16) :: stk) :=
  g_iast cx 16 1 (ws' := fun f => wX12 o cB cI cJ cZ (mAs z 31 f)) hf rfl rfl (fun _ => rfl) hd (fun _ hf => kk _ hf)
def F_X12_hears_b2 (x1 : Int32) : Nat → Int32 → SM → Option (SM)
  | 0, _, _ => none
  | n + 1, v2, zs_o => (if 16 ≤ v2 then some (zs_o) else (aget 128 (mA zs_o 9) ((4 * v2) + x1)).bind fun e_1 => (aset 16 (mA zs_o 31) v2 e_1).bind fun f_2 => nm (mAs zs_o 31 f_2) fun s_o_3 => nm (v2 + 1) fun v2_4 => (F_X12_hears_b2 x1 n) v2_4 s_o_3)
def F_X12_hears (s_o : SM) (x1 : Int32) : Option (SM) := nm 0 fun v2_5 => F_X12_hears_b2 x1 fu v2_5 s_o

abbrev rm_X12_hears : Room := { frames := 0, cells := 0, slots := 0, locals := 0 }
set_option maxHeartbeats 4000000 in
set_option maxRecDepth 100000 in
theorem c_X12_hears (l : Launch) (D : gG) (cB cI cJ cZ : ClassId) (o : Nat → Nat) (s_o : SM) (x1 : Int32) (r : SM) (hf : F_X12_hears s_o x1 = some r) : gM l D (tyL cB cI cJ cZ) yX12_hears cX12_hears 3 none rm_X12_hears [.ref (o 0), .int x1] (wX12 o cB cI cJ cZ s_o) none (wX12 o cB cI cJ cZ r) := by
  refine met_of (by decide) (Nat.le_of_ble_eq_true rfl) ?_
  intro p e s m args below meth c A cx hr hA
  show gW p l e rm_X12_hears s m args below meth c D A 3 _ 0 0 _ [(0, .ref (o 0)), (1, .int x1)] 0 []
  have h2 : ∀ (n : Nat) (v2 : Int32) (zs_o : SM), F_X12_hears_b2 x1 n v2 zs_o = some r → gW p l e rm_X12_hears s m args below meth c D A 3 (MQ below (QM D (tyL cB cI cJ cZ) none (wX12 o cB cI cJ cZ s_o) (wX12 o cB cI cJ cZ r) s.heap.size) args s 0 0 A) 0 0 (wX12 o cB cI cJ cZ zs_o) [(0, .ref (o 0)), (1, .int x1), (2, .int v2)] 2 [] := by
    intro n
    induction n with
    | zero => intro v2 zs_o hf; rw [F_X12_hears_b2] at hf; cases hf
    | succ n ih =>
      intro v2 zs_o hf
      rw [F_X12_hears_b2] at hf
      refine g_iln cx 2 dX12_hears_2 rfl ?_
      refine g_bp cx dX12_hears_3 k_bp16 ?_
      refine g_ic_ge (tgt := 30) cx hf dX12_hears_5 rfl (fun hf => ?_) (fun hf => ?_)
      · exact g_vret (ovf := fun (r : SM) => none) (wf := fun (r : SM) => (wX12 o cB cI cJ cZ r)) cx hA hr hf rfl rfl dX12_hears_30
      · refine g_aln cx 0 dX12_hears_8 rfl ?_
        refine mg_sound cx dX12_hears_9 ?_
        refine g_iln cx 2 dX12_hears_12 rfl ?_
        refine g_aln cx 0 dX12_hears_13 rfl ?_
        refine mg_word cx dX12_hears_14 ?_
        refine g_ic cx dX12_hears_17 k_ic4 ?_
        refine g_iln cx 2 dX12_hears_18 rfl ?_
        refine g_imul cx dX12_hears_19 ?_
        refine g_iln cx 1 dX12_hears_20 rfl ?_
        refine g_iadd cx dX12_hears_21 ?_
        refine ml_word cx hf dX12_hears_22 (fun e_1 hf => ?_)
        refine ms_sound cx hf dX12_hears_23 (fun s_o_3 hf => ?_)
        refine g_inc cx (L2 := fun v2_4 => [(2, .int v2_4), (0, .ref (o 0)), (1, .int x1)]) 2 hf dX12_hears_24 rfl (k_inc1 _) (Nat.le_of_ble_eq_true rfl) (fun _ => rfl) (fun v2_4 hf => ?_)
        refine g_goto (tgt := 2) cx dX12_hears_27 rfl ?_
        refine g_sub [1, 2, 0] rfl ?_
        exact ih _ _ hf
  rw [F_X12_hears] at hf
  refine g_ic cx dX12_hears_0 k_ic0 ?_
  refine g_isn cx (L2 := fun v2_5 => [(2, .int v2_5), (0, .ref (o 0)), (1, .int x1)]) hf dX12_hears_1 (Nat.le_of_ble_eq_true rfl) (fun _ => rfl) (fun v2_5 hf => ?_)
  refine g_sub [1, 2, 0] rfl ?_
  exact h2 fu _ _ hf
theorem dX12_isMetre_0 : decode cX12_isMetre 0 = .ok (.aload_n 0, 1) := by decide +kernel
theorem dX12_isMetre_1 : decode cX12_isMetre 1 = .ok (.getfield 19, 3) := by decide +kernel
theorem dX12_isMetre_4 : decode cX12_isMetre 4 = .ok (.aload_n 0, 1) := by decide +kernel
theorem dX12_isMetre_5 : decode cX12_isMetre 5 = .ok (.iload_n 1, 1) := by decide +kernel
theorem dX12_isMetre_6 : decode cX12_isMetre 6 = .ok (.iload_n 2, 1) := by decide +kernel
theorem dX12_isMetre_7 : decode cX12_isMetre 7 = .ok (.invokevirtual 182, 3) := by decide +kernel
theorem dX12_isMetre_10 : decode cX12_isMetre 10 = .ok (.iaload, 1) := by decide +kernel
theorem dX12_isMetre_11 : decode cX12_isMetre 11 = .ok (.istore 4, 2) := by decide +kernel
theorem dX12_isMetre_13 : decode cX12_isMetre 13 = .ok (.iload 4, 2) := by decide +kernel
theorem dX12_isMetre_15 : decode cX12_isMetre 15 = .ok (.ifCond .eq 29, 3) := by decide +kernel
theorem dX12_isMetre_18 : decode cX12_isMetre 18 = .ok (.aload_n 0, 1) := by decide +kernel
theorem dX12_isMetre_19 : decode cX12_isMetre 19 = .ok (.getfield 38, 3) := by decide +kernel
theorem dX12_isMetre_22 : decode cX12_isMetre 22 = .ok (.iconst 3, 1) := by decide +kernel
theorem dX12_isMetre_23 : decode cX12_isMetre 23 = .ok (.iload_n 2, 1) := by decide +kernel
theorem dX12_isMetre_24 : decode cX12_isMetre 24 = .ok (.imul, 1) := by decide +kernel
theorem dX12_isMetre_25 : decode cX12_isMetre 25 = .ok (.iconst 2, 1) := by decide +kernel
theorem dX12_isMetre_26 : decode cX12_isMetre 26 = .ok (.iadd, 1) := by decide +kernel
theorem dX12_isMetre_27 : decode cX12_isMetre 27 = .ok (.iaload, 1) := by decide +kernel
theorem dX12_isMetre_28 : decode cX12_isMetre 28 = .ok (.aload_n 0, 1) := by decide +kernel
theorem dX12_isMetre_29 : decode cX12_isMetre 29 = .ok (.getfield 13, 3) := by decide +kernel
theorem dX12_isMetre_32 : decode cX12_isMetre 32 = .ok (.iconst 4, 1) := by decide +kernel
theorem dX12_isMetre_33 : decode cX12_isMetre 33 = .ok (.iload_n 3, 1) := by decide +kernel
theorem dX12_isMetre_34 : decode cX12_isMetre 34 = .ok (.imul, 1) := by decide +kernel
theorem dX12_isMetre_35 : decode cX12_isMetre 35 = .ok (.iconst 3, 1) := by decide +kernel
theorem dX12_isMetre_36 : decode cX12_isMetre 36 = .ok (.iadd, 1) := by decide +kernel
theorem dX12_isMetre_37 : decode cX12_isMetre 37 = .ok (.iaload, 1) := by decide +kernel
theorem dX12_isMetre_38 : decode cX12_isMetre 38 = .ok (.iadd, 1) := by decide +kernel
theorem dX12_isMetre_39 : decode cX12_isMetre 39 = .ok (.iload 4, 2) := by decide +kernel
theorem dX12_isMetre_41 : decode cX12_isMetre 41 = .ok (.if_icmp .ne 7, 3) := by decide +kernel
theorem dX12_isMetre_44 : decode cX12_isMetre 44 = .ok (.iconst 1, 1) := by decide +kernel
theorem dX12_isMetre_45 : decode cX12_isMetre 45 = .ok (.goto 4, 3) := by decide +kernel
theorem dX12_isMetre_48 : decode cX12_isMetre 48 = .ok (.iconst 0, 1) := by decide +kernel
theorem dX12_isMetre_49 : decode cX12_isMetre 49 = .ok (.ireturn, 1) := by decide +kernel

theorem ml_tried {p : Program} {l : Launch} {e : Env} {R : Room} {s : State} {m : MethodId} {args : Array Value} {below : List Frame} {meth : Method} {c : Code} {D : gG} {A : Nat → Prop} {nL : Nat} {Q : State → Prop} {cells slots : Nat} {cc : ByteArray} {L : List (Nat × Value)} {pc : Nat} {stk : List Value} {β : Type} {r : β} {o : Nat → Nat} {cB cI cJ cZ : ClassId} {z : SM} (cx : gX p s m args meth c cc nL RX12 D (tyL cB cI cJ cZ) A) {i : Int32} {kf : Int32 → Option β} (hf : (aget 27 (mA z 24) i).bind kf = some r) (hd : decode cc pc = .ok (.iaload, 1)) (kk : ∀ v : Int32, kf v = some r → gW p l e R s m args below meth c D A nL Q cells slots (wX12 o cB cI cJ cZ z) L (pc + 1) (.int v :: stk)) : gW p l e R s m args below meth c D A nL Q cells slots (wX12 o cB cI cJ cZ z) L pc (.int i :: .ref (o 10) :: stk) :=
  g_iald cx 10 1 hf rfl rfl hd kk
def F_X12_isMetre (s_o : SM) (x1 : Int32) (x2 : Int32) (x3 : Int32) : Option (Int32) := (F_X12_letterOf s_o x1 x2).bind fun q_1 => (aget 16 (mA s_o 11) q_1).bind fun e_2 => nm e_2 fun v4_3 => (if v4_3 = 0 then some (1) else (aget 27 (mA s_o 24) ((3 * x2) + 2)).bind fun e_4 => (aget 128 (mA s_o 9) ((4 * x3) + 3)).bind fun e_5 => (if (e_4 + e_5) = v4_3 then some (1) else some (0)))

abbrev rm_X12_isMetre : Room := { frames := 1, cells := 0, slots := 0, locals := 22 }
set_option maxHeartbeats 4000000 in
set_option maxRecDepth 100000 in
theorem c_X12_isMetre (l : Launch) (D : gG) (cB cI cJ cZ : ClassId) (o : Nat → Nat) (s_o : SM) (x1 : Int32) (x2 : Int32) (x3 : Int32) (r : Int32) (hf : F_X12_isMetre s_o x1 x2 x3 = some r) : gM l D (tyL cB cI cJ cZ) yX12_isMetre cX12_isMetre 5 (some .boolean) rm_X12_isMetre [.ref (o 0), .int x1, .int x2, .int x3] (wX12 o cB cI cJ cZ s_o) (some (.int r)) (wX12 o cB cI cJ cZ s_o) := by
  refine met_of (by decide) (Nat.le_of_ble_eq_true rfl) ?_
  intro p e s m args below meth c A cx hr hA
  show gW p l e rm_X12_isMetre s m args below meth c D A 5 _ 0 0 _ [(0, .ref (o 0)), (1, .int x1), (2, .int x2), (3, .int x3)] 0 []
  rw [F_X12_isMetre] at hf
  refine g_aln cx 0 dX12_isMetre_0 rfl ?_
  refine mg_metre cx dX12_isMetre_1 ?_
  refine g_aln cx 0 dX12_isMetre_4 rfl ?_
  refine g_iln cx 1 dX12_isMetre_5 rfl ?_
  refine g_iln cx 2 dX12_isMetre_6 rfl ?_
  refine ob hf (fun q_1 hq_1 hf => ?_)
  refine g_callVFi cx lk_RX12_182 (c_X12_letterOf l D cB cI cJ cZ o s_o x1 x2 q_1 hq_1) rfl (ci := 10) (q1 := 0) rfl rfl rfl (Nat.le_of_ble_eq_true rfl) ⟨rfl, rfl, Nat.le_of_ble_eq_true rfl, Nat.le_of_ble_eq_true rfl⟩ dX12_isMetre_7 ?_
  refine ml_metre cx hf dX12_isMetre_10 (fun e_2 hf => ?_)
  refine g_is cx (L2 := fun v4_3 => [(4, .int v4_3), (0, .ref (o 0)), (1, .int x1), (2, .int x2), (3, .int x3)]) hf dX12_isMetre_11 (Nat.le_of_ble_eq_true rfl) (fun _ => rfl) (fun v4_3 hf => ?_)
  refine g_il cx 0 dX12_isMetre_13 rfl ?_
  refine g_if_eq (tgt := 44) cx hf dX12_isMetre_15 rfl (fun hf => ?_) (fun hf => ?_)
  · refine g_ic cx dX12_isMetre_44 k_ic1 ?_
    refine g_goto (tgt := 49) cx dX12_isMetre_45 rfl ?_
    exact g_zret (ovf := fun (r : Int32) => (some (.int r))) (wf := fun (r : Int32) => (wX12 o cB cI cJ cZ s_o)) cx hA hr rfl hf rfl rfl dX12_isMetre_49
  · refine g_aln cx 1 dX12_isMetre_18 rfl ?_
    refine mg_tried cx dX12_isMetre_19 ?_
    refine g_ic cx dX12_isMetre_22 k_ic3 ?_
    refine g_iln cx 3 dX12_isMetre_23 rfl ?_
    refine g_imul cx dX12_isMetre_24 ?_
    refine g_ic cx dX12_isMetre_25 k_ic2 ?_
    refine g_iadd cx dX12_isMetre_26 ?_
    refine ml_tried cx hf dX12_isMetre_27 (fun e_4 hf => ?_)
    refine g_aln cx 1 dX12_isMetre_28 rfl ?_
    refine mg_word cx dX12_isMetre_29 ?_
    refine g_ic cx dX12_isMetre_32 k_ic4 ?_
    refine g_iln cx 4 dX12_isMetre_33 rfl ?_
    refine g_imul cx dX12_isMetre_34 ?_
    refine g_ic cx dX12_isMetre_35 k_ic3 ?_
    refine g_iadd cx dX12_isMetre_36 ?_
    refine ml_word cx hf dX12_isMetre_37 (fun e_5 hf => ?_)
    refine g_iadd cx dX12_isMetre_38 ?_
    refine g_il cx 0 dX12_isMetre_39 rfl ?_
    refine g_ic_ne (tgt := 48) cx hf dX12_isMetre_41 rfl (fun hf => ?_) (fun hf => ?_)
    · refine g_ic cx dX12_isMetre_48 k_ic0 ?_
      exact g_zret (ovf := fun (r : Int32) => (some (.int r))) (wf := fun (r : Int32) => (wX12 o cB cI cJ cZ s_o)) cx hA hr rfl hf rfl rfl dX12_isMetre_49
    · refine g_ic cx dX12_isMetre_44 k_ic1 ?_
      refine g_goto (tgt := 49) cx dX12_isMetre_45 rfl ?_
      exact g_zret (ovf := fun (r : Int32) => (some (.int r))) (wf := fun (r : Int32) => (wX12 o cB cI cJ cZ s_o)) cx hA hr rfl hf rfl rfl dX12_isMetre_49
theorem dX12_holds_0 : decode cX12_holds 0 = .ok (.iconst 0, 1) := by decide +kernel
theorem dX12_holds_1 : decode cX12_holds 1 = .ok (.istore_n 3, 1) := by decide +kernel
theorem dX12_holds_2 : decode cX12_holds 2 = .ok (.iload_n 1, 1) := by decide +kernel
theorem dX12_holds_3 : decode cX12_holds 3 = .ok (.iconst 1, 1) := by decide +kernel
theorem dX12_holds_4 : decode cX12_holds 4 = .ok (.iadd, 1) := by decide +kernel
theorem dX12_holds_5 : decode cX12_holds 5 = .ok (.istore 4, 2) := by decide +kernel
theorem dX12_holds_7 : decode cX12_holds 7 = .ok (.iload 4, 2) := by decide +kernel
theorem dX12_holds_9 : decode cX12_holds 9 = .ok (.aload_n 0, 1) := by decide +kernel
theorem dX12_holds_10 : decode cX12_holds 10 = .ok (.getfield 188, 3) := by decide +kernel
theorem dX12_holds_13 : decode cX12_holds 13 = .ok (.if_icmp .ge 44, 3) := by decide +kernel
theorem dX12_holds_16 : decode cX12_holds 16 = .ok (.iload_n 3, 1) := by decide +kernel
theorem dX12_holds_17 : decode cX12_holds 17 = .ok (.ifCond .ne 28, 3) := by decide +kernel
theorem dX12_holds_20 : decode cX12_holds 20 = .ok (.aload_n 0, 1) := by decide +kernel
theorem dX12_holds_21 : decode cX12_holds 21 = .ok (.getfield 50, 3) := by decide +kernel
theorem dX12_holds_24 : decode cX12_holds 24 = .ok (.iload 4, 2) := by decide +kernel
theorem dX12_holds_26 : decode cX12_holds 26 = .ok (.iaload, 1) := by decide +kernel
theorem dX12_holds_27 : decode cX12_holds 27 = .ok (.iload_n 1, 1) := by decide +kernel
theorem dX12_holds_28 : decode cX12_holds 28 = .ok (.if_icmp .ne 21, 3) := by decide +kernel
theorem dX12_holds_31 : decode cX12_holds 31 = .ok (.iload_n 2, 1) := by decide +kernel
theorem dX12_holds_32 : decode cX12_holds 32 = .ok (.ifCond .eq 13, 3) := by decide +kernel
theorem dX12_holds_35 : decode cX12_holds 35 = .ok (.aload_n 0, 1) := by decide +kernel
theorem dX12_holds_36 : decode cX12_holds 36 = .ok (.getfield 53, 3) := by decide +kernel
theorem dX12_holds_39 : decode cX12_holds 39 = .ok (.iload 4, 2) := by decide +kernel
theorem dX12_holds_41 : decode cX12_holds 41 = .ok (.baload, 1) := by decide +kernel
theorem dX12_holds_42 : decode cX12_holds 42 = .ok (.ifCond .ne 7, 3) := by decide +kernel
theorem dX12_holds_45 : decode cX12_holds 45 = .ok (.iconst 1, 1) := by decide +kernel
theorem dX12_holds_46 : decode cX12_holds 46 = .ok (.goto 4, 3) := by decide +kernel
theorem dX12_holds_49 : decode cX12_holds 49 = .ok (.iconst 0, 1) := by decide +kernel
theorem dX12_holds_50 : decode cX12_holds 50 = .ok (.istore_n 3, 1) := by decide +kernel
theorem dX12_holds_51 : decode cX12_holds 51 = .ok (.iinc 4 1, 3) := by decide +kernel
theorem dX12_holds_54 : decode cX12_holds 54 = .ok (.goto (-47), 3) := by decide +kernel
theorem dX12_holds_57 : decode cX12_holds 57 = .ok (.iload_n 3, 1) := by decide +kernel
theorem dX12_holds_58 : decode cX12_holds 58 = .ok (.ireturn, 1) := by decide +kernel
theorem q5_12 : Cond.fieldLink RX12 50 "RhymeLawModel" "anchor" "[I" ∈ TT := tq5 12 rfl rfl
theorem q5_13 : Cond.fieldLink RX12 53 "RhymeLawModel" "lapses" "[Z" ∈ TT := tq5 13 rfl rfl
theorem fg_RX12_50 {p : Program} {l : Launch} {e : Env} {R : Room} {s : State} {m : MethodId} {args : Array Value} {below : List Frame} {meth : Method} {c : Code} {D : gG} {tys : List (ClassId × FieldType)} {A : Nat → Prop} {nL : Nat} {Q : State → Prop} {cells slots : Nat} {cc : ByteArray} {ws : va_W} {L : List (Nat × Value)} {pc : Nat} {stk : List Value} (cx : gX p s m args meth c cc nL RX12 D tys A) {a : Nat} {fs : List Value} {v : Value} (q0 : Nat) (he : ws[q0]? = some (a, .inr (10, fs))) (hv : fs[29]? = some v) (hd : decode cc pc = .ok (.getfield 50, 3)) (kk : gW p l e R s m args below meth c D A nL Q cells slots ws L (pc + 3) (v :: stk)) : gW p l e R s m args below meth c D A nL Q cells slots ws L pc (.ref a :: stk) :=
  g_get cx (C := RX12) (T := TX12) (N := 38) inT12 rfl 29 (Nat.le_of_ble_eq_true rfl) q5_12 rfl q0 he hv hd kk
theorem mg_anchor {p : Program} {l : Launch} {e : Env} {R : Room} {s : State} {m : MethodId} {args : Array Value} {below : List Frame} {meth : Method} {c : Code} {D : gG} {A : Nat → Prop} {nL : Nat} {Q : State → Prop} {cells slots : Nat} {cc : ByteArray} {L : List (Nat × Value)} {pc : Nat} {stk : List Value} {o : Nat → Nat} {cB cI cJ cZ : ClassId} {z : SM} (cx : gX p s m args meth c cc nL RX12 D (tyL cB cI cJ cZ) A) (hd : decode cc pc = .ok (.getfield 50, 3)) (kk : gW p l e R s m args below meth c D A nL Q cells slots (wX12 o cB cI cJ cZ z) L (pc + 3) (.ref (o 14) :: stk)) : gW p l e R s m args below meth c D A nL Q cells slots (wX12 o cB cI cJ cZ z) L pc (.ref (o 0) :: stk) :=
  fg_RX12_50 cx 0 rfl rfl hd kk
theorem fg_RX12_53 {p : Program} {l : Launch} {e : Env} {R : Room} {s : State} {m : MethodId} {args : Array Value} {below : List Frame} {meth : Method} {c : Code} {D : gG} {tys : List (ClassId × FieldType)} {A : Nat → Prop} {nL : Nat} {Q : State → Prop} {cells slots : Nat} {cc : ByteArray} {ws : va_W} {L : List (Nat × Value)} {pc : Nat} {stk : List Value} (cx : gX p s m args meth c cc nL RX12 D tys A) {a : Nat} {fs : List Value} {v : Value} (q0 : Nat) (he : ws[q0]? = some (a, .inr (10, fs))) (hv : fs[30]? = some v) (hd : decode cc pc = .ok (.getfield 53, 3)) (kk : gW p l e R s m args below meth c D A nL Q cells slots ws L (pc + 3) (v :: stk)) : gW p l e R s m args below meth c D A nL Q cells slots ws L pc (.ref a :: stk) :=
  g_get cx (C := RX12) (T := TX12) (N := 38) inT12 rfl 30 (Nat.le_of_ble_eq_true rfl) q5_13 rfl q0 he hv hd kk
theorem mg_lapses {p : Program} {l : Launch} {e : Env} {R : Room} {s : State} {m : MethodId} {args : Array Value} {below : List Frame} {meth : Method} {c : Code} {D : gG} {A : Nat → Prop} {nL : Nat} {Q : State → Prop} {cells slots : Nat} {cc : ByteArray} {L : List (Nat × Value)} {pc : Nat} {stk : List Value} {o : Nat → Nat} {cB cI cJ cZ : ClassId} {z : SM} (cx : gX p s m args meth c cc nL RX12 D (tyL cB cI cJ cZ) A) (hd : decode cc pc = .ok (.getfield 53, 3)) (kk : gW p l e R s m args below meth c D A nL Q cells slots (wX12 o cB cI cJ cZ z) L (pc + 3) (.ref (o 15) :: stk)) : gW p l e R s m args below meth c D A nL Q cells slots (wX12 o cB cI cJ cZ z) L pc (.ref (o 0) :: stk) :=
  fg_RX12_53 cx 0 rfl rfl hd kk
theorem ml_lapses {p : Program} {l : Launch} {e : Env} {R : Room} {s : State} {m : MethodId} {args : Array Value} {below : List Frame} {meth : Method} {c : Code} {D : gG} {A : Nat → Prop} {nL : Nat} {Q : State → Prop} {cells slots : Nat} {cc : ByteArray} {L : List (Nat × Value)} {pc : Nat} {stk : List Value} {β : Type} {r : β} {o : Nat → Nat} {cB cI cJ cZ : ClassId} {z : SM} (cx : gX p s m args meth c cc nL RX12 D (tyL cB cI cJ cZ) A) {i : Int32} {kf : Int32 → Option β} (hf : (aget 9 (mA z 30) i).bind kf = some r) (hd : decode cc pc = .ok (.baload, 1)) (kk : ∀ v : Int32, kf v = some r → gW p l e R s m args below meth c D A nL Q cells slots (wX12 o cB cI cJ cZ z) L (pc + 1) (.int v :: stk)) : gW p l e R s m args below meth c D A nL Q cells slots (wX12 o cB cI cJ cZ z) L pc (.int i :: .ref (o 15) :: stk) :=
  g_zald cx 15 3 hf rfl rfl hd kk
theorem ml_anchor {p : Program} {l : Launch} {e : Env} {R : Room} {s : State} {m : MethodId} {args : Array Value} {below : List Frame} {meth : Method} {c : Code} {D : gG} {A : Nat → Prop} {nL : Nat} {Q : State → Prop} {cells slots : Nat} {cc : ByteArray} {L : List (Nat × Value)} {pc : Nat} {stk : List Value} {β : Type} {r : β} {o : Nat → Nat} {cB cI cJ cZ : ClassId} {z : SM} (cx : gX p s m args meth c cc nL RX12 D (tyL cB cI cJ cZ) A) {i : Int32} {kf : Int32 → Option β} (hf : (aget 9 (mA z 29) i).bind kf = some r) (hd : decode cc pc = .ok (.iaload, 1)) (kk : ∀ v : Int32, kf v = some r → gW p l e R s m args below meth c D A nL Q cells slots (wX12 o cB cI cJ cZ z) L (pc + 1) (.int v :: stk)) : gW p l e R s m args below meth c D A nL Q cells slots (wX12 o cB cI cJ cZ z) L pc (.int i :: .ref (o 14) :: stk) :=
  g_iald cx 14 1 hf rfl rfl hd kk
def F_X12_holds_b50 (s_o : SM) (x1 : Int32) (x2 : Int32) (K7 : Int32 → Int32 → Option (Int32)) (v4 : Int32) (k0 : Int32) : Option (Int32) := nm k0 fun v3_1 => nm (v4 + 1) fun v4_2 => K7 v3_1 v4_2
def F_X12_holds_b45 (s_o : SM) (x1 : Int32) (x2 : Int32) (K7 : Int32 → Int32 → Option (Int32)) (v4 : Int32) : Option (Int32) := F_X12_holds_b50 s_o x1 x2 K7 v4 1
def F_X12_holds_b49 (s_o : SM) (x1 : Int32) (x2 : Int32) (K7 : Int32 → Int32 → Option (Int32)) (v4 : Int32) : Option (Int32) := F_X12_holds_b50 s_o x1 x2 K7 v4 0
def F_X12_holds_b7 (s_o : SM) (x1 : Int32) (x2 : Int32) : Nat → Int32 → Int32 → Option (Int32)
  | 0, _, _ => none
  | n + 1, v3, v4 => (if (mI s_o 25) ≤ v4 then (zb v3).bind fun z_3 => some (v3) else (if v3 = 0 then (aget 9 (mA s_o 29) v4).bind fun e_4 => (if e_4 = x1 then (if x2 = 0 then F_X12_holds_b45 s_o x1 x2 (F_X12_holds_b7 s_o x1 x2 n) v4 else (aget 9 (mA s_o 30) v4).bind fun e_5 => (if e_5 = 0 then F_X12_holds_b45 s_o x1 x2 (F_X12_holds_b7 s_o x1 x2 n) v4 else F_X12_holds_b49 s_o x1 x2 (F_X12_holds_b7 s_o x1 x2 n) v4)) else F_X12_holds_b49 s_o x1 x2 (F_X12_holds_b7 s_o x1 x2 n) v4) else F_X12_holds_b45 s_o x1 x2 (F_X12_holds_b7 s_o x1 x2 n) v4))
def F_X12_holds (s_o : SM) (x1 : Int32) (x2 : Int32) : Option (Int32) := nm 0 fun v3_6 => nm (x1 + 1) fun v4_7 => F_X12_holds_b7 s_o x1 x2 fu v3_6 v4_7

abbrev rm_X12_holds : Room := { frames := 0, cells := 0, slots := 0, locals := 0 }
set_option maxHeartbeats 4000000 in
set_option maxRecDepth 100000 in
theorem c_X12_holds (l : Launch) (D : gG) (cB cI cJ cZ : ClassId) (o : Nat → Nat) (s_o : SM) (x1 : Int32) (x2 : Int32) (r : Int32) (hf : F_X12_holds s_o x1 x2 = some r) : gM l D (tyL cB cI cJ cZ) yX12_holds cX12_holds 5 (some .boolean) rm_X12_holds [.ref (o 0), .int x1, .int x2] (wX12 o cB cI cJ cZ s_o) (some (.int r)) (wX12 o cB cI cJ cZ s_o) := by
  refine met_of (by decide) (Nat.le_of_ble_eq_true rfl) ?_
  intro p e s m args below meth c A cx hr hA
  show gW p l e rm_X12_holds s m args below meth c D A 5 _ 0 0 _ [(0, .ref (o 0)), (1, .int x1), (2, .int x2)] 0 []
  have h50 : ∀ (K7 : Int32 → Int32 → Option (Int32)), (∀ (v3 : Int32) (v4 : Int32), K7 v3 v4 = some r → gW p l e rm_X12_holds s m args below meth c D A 5 (MQ below (QM D (tyL cB cI cJ cZ) (some (.int r)) (wX12 o cB cI cJ cZ s_o) (wX12 o cB cI cJ cZ s_o) s.heap.size) args s 0 0 A) 0 0 (wX12 o cB cI cJ cZ s_o) [(0, .ref (o 0)), (1, .int x1), (2, .int x2), (3, .int v3), (4, .int v4)] 7 []) → ∀ (v4 : Int32) (k0 : Int32), F_X12_holds_b50 s_o x1 x2 K7 v4 k0 = some r → gW p l e rm_X12_holds s m args below meth c D A 5 (MQ below (QM D (tyL cB cI cJ cZ) (some (.int r)) (wX12 o cB cI cJ cZ s_o) (wX12 o cB cI cJ cZ s_o) s.heap.size) args s 0 0 A) 0 0 (wX12 o cB cI cJ cZ s_o) [(0, .ref (o 0)), (1, .int x1), (2, .int x2), (4, .int v4)] 50 [.int k0] := by
    intro K7 kh7 v4 k0 hf
    rw [F_X12_holds_b50] at hf
    refine g_isn cx (L2 := fun v3_1 => [(3, .int v3_1), (0, .ref (o 0)), (1, .int x1), (2, .int x2), (4, .int v4)]) hf dX12_holds_50 (Nat.le_of_ble_eq_true rfl) (fun _ => rfl) (fun v3_1 hf => ?_)
    refine g_inc cx (L2 := fun v4_2 => [(4, .int v4_2), (3, .int v3_1), (0, .ref (o 0)), (1, .int x1), (2, .int x2)]) 4 hf dX12_holds_51 rfl (k_inc1 _) (Nat.le_of_ble_eq_true rfl) (fun _ => rfl) (fun v4_2 hf => ?_)
    refine g_goto (tgt := 7) cx dX12_holds_54 rfl ?_
    refine g_sub [2, 3, 4, 1, 0] rfl ?_
    exact kh7 _ _ hf
  have h45 : ∀ (K7 : Int32 → Int32 → Option (Int32)), (∀ (v3 : Int32) (v4 : Int32), K7 v3 v4 = some r → gW p l e rm_X12_holds s m args below meth c D A 5 (MQ below (QM D (tyL cB cI cJ cZ) (some (.int r)) (wX12 o cB cI cJ cZ s_o) (wX12 o cB cI cJ cZ s_o) s.heap.size) args s 0 0 A) 0 0 (wX12 o cB cI cJ cZ s_o) [(0, .ref (o 0)), (1, .int x1), (2, .int x2), (3, .int v3), (4, .int v4)] 7 []) → ∀ (v4 : Int32), F_X12_holds_b45 s_o x1 x2 K7 v4 = some r → gW p l e rm_X12_holds s m args below meth c D A 5 (MQ below (QM D (tyL cB cI cJ cZ) (some (.int r)) (wX12 o cB cI cJ cZ s_o) (wX12 o cB cI cJ cZ s_o) s.heap.size) args s 0 0 A) 0 0 (wX12 o cB cI cJ cZ s_o) [(0, .ref (o 0)), (1, .int x1), (2, .int x2), (4, .int v4)] 45 [] := by
    intro K7 kh7 v4 hf
    rw [F_X12_holds_b45] at hf
    refine g_ic cx dX12_holds_45 k_ic1 ?_
    refine g_goto (tgt := 50) cx dX12_holds_46 rfl ?_
    exact h50 _ kh7 _ _ hf
  have h49 : ∀ (K7 : Int32 → Int32 → Option (Int32)), (∀ (v3 : Int32) (v4 : Int32), K7 v3 v4 = some r → gW p l e rm_X12_holds s m args below meth c D A 5 (MQ below (QM D (tyL cB cI cJ cZ) (some (.int r)) (wX12 o cB cI cJ cZ s_o) (wX12 o cB cI cJ cZ s_o) s.heap.size) args s 0 0 A) 0 0 (wX12 o cB cI cJ cZ s_o) [(0, .ref (o 0)), (1, .int x1), (2, .int x2), (3, .int v3), (4, .int v4)] 7 []) → ∀ (v4 : Int32), F_X12_holds_b49 s_o x1 x2 K7 v4 = some r → gW p l e rm_X12_holds s m args below meth c D A 5 (MQ below (QM D (tyL cB cI cJ cZ) (some (.int r)) (wX12 o cB cI cJ cZ s_o) (wX12 o cB cI cJ cZ s_o) s.heap.size) args s 0 0 A) 0 0 (wX12 o cB cI cJ cZ s_o) [(0, .ref (o 0)), (1, .int x1), (2, .int x2), (4, .int v4)] 49 [] := by
    intro K7 kh7 v4 hf
    rw [F_X12_holds_b49] at hf
    refine g_ic cx dX12_holds_49 k_ic0 ?_
    exact h50 _ kh7 _ _ hf
  have h7 : ∀ (n : Nat) (v3 : Int32) (v4 : Int32), F_X12_holds_b7 s_o x1 x2 n v3 v4 = some r → gW p l e rm_X12_holds s m args below meth c D A 5 (MQ below (QM D (tyL cB cI cJ cZ) (some (.int r)) (wX12 o cB cI cJ cZ s_o) (wX12 o cB cI cJ cZ s_o) s.heap.size) args s 0 0 A) 0 0 (wX12 o cB cI cJ cZ s_o) [(0, .ref (o 0)), (1, .int x1), (2, .int x2), (3, .int v3), (4, .int v4)] 7 [] := by
    intro n
    induction n with
    | zero => intro v3 v4 hf; rw [F_X12_holds_b7] at hf; cases hf
    | succ n ih =>
      intro v3 v4 hf
      rw [F_X12_holds_b7] at hf
      refine g_il cx 4 dX12_holds_7 rfl ?_
      refine g_aln cx 0 dX12_holds_9 rfl ?_
      refine mg_many cx dX12_holds_10 ?_
      refine g_ic_ge (tgt := 57) cx hf dX12_holds_13 rfl (fun hf => ?_) (fun hf => ?_)
      · refine g_iln cx 3 dX12_holds_57 rfl ?_
        refine ob hf (fun z_3 hz hf => ?_)
        exact g_zret (ovf := fun (r : Int32) => (some (.int r))) (wf := fun (r : Int32) => (wX12 o cB cI cJ cZ s_o)) cx hA hr (zb_some hz).2 hf rfl rfl dX12_holds_58
      · refine g_iln cx 3 dX12_holds_16 rfl ?_
        refine g_if_ne (tgt := 45) cx hf dX12_holds_17 rfl (fun hf => ?_) (fun hf => ?_)
        · refine g_sub [0, 1, 2, 4] rfl ?_
          exact h45 _ ih _ hf
        · refine g_aln cx 0 dX12_holds_20 rfl ?_
          refine mg_anchor cx dX12_holds_21 ?_
          refine g_il cx 4 dX12_holds_24 rfl ?_
          refine ml_anchor cx hf dX12_holds_26 (fun e_4 hf => ?_)
          refine g_iln cx 1 dX12_holds_27 rfl ?_
          refine g_ic_ne (tgt := 49) cx hf dX12_holds_28 rfl (fun hf => ?_) (fun hf => ?_)
          · refine g_sub [0, 1, 2, 4] rfl ?_
            exact h49 _ ih _ hf
          · refine g_iln cx 2 dX12_holds_31 rfl ?_
            refine g_if_eq (tgt := 45) cx hf dX12_holds_32 rfl (fun hf => ?_) (fun hf => ?_)
            · refine g_sub [0, 1, 2, 4] rfl ?_
              exact h45 _ ih _ hf
            · refine g_aln cx 0 dX12_holds_35 rfl ?_
              refine mg_lapses cx dX12_holds_36 ?_
              refine g_il cx 4 dX12_holds_39 rfl ?_
              refine ml_lapses cx hf dX12_holds_41 (fun e_5 hf => ?_)
              refine g_if_ne (tgt := 49) cx hf dX12_holds_42 rfl (fun hf => ?_) (fun hf => ?_)
              · refine g_sub [0, 1, 2, 4] rfl ?_
                exact h49 _ ih _ hf
              · refine g_sub [0, 1, 2, 4] rfl ?_
                exact h45 _ ih _ hf
  rw [F_X12_holds] at hf
  refine g_ic cx dX12_holds_0 k_ic0 ?_
  refine g_isn cx (L2 := fun v3_6 => [(3, .int v3_6), (0, .ref (o 0)), (1, .int x1), (2, .int x2)]) hf dX12_holds_1 (Nat.le_of_ble_eq_true rfl) (fun _ => rfl) (fun v3_6 hf => ?_)
  refine g_iln cx 2 dX12_holds_2 rfl ?_
  refine g_ic cx dX12_holds_3 k_ic1 ?_
  refine g_iadd cx dX12_holds_4 ?_
  refine g_is cx (L2 := fun v4_7 => [(4, .int v4_7), (3, .int v3_6), (0, .ref (o 0)), (1, .int x1), (2, .int x2)]) hf dX12_holds_5 (Nat.le_of_ble_eq_true rfl) (fun _ => rfl) (fun v4_7 hf => ?_)
  refine g_sub [2, 3, 4, 1, 0] rfl ?_
  exact h7 fu _ _ hf
