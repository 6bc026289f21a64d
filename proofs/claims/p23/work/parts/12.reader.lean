theorem dX5_nextNumber_0 : decode cX5_nextNumber 0 = .ok (.aload_n 0, 1) := by decide +kernel
theorem dX5_nextNumber_1 : decode cX5_nextNumber 1 = .ok (.invokevirtual 19, 3) := by decide +kernel
theorem dX5_nextNumber_4 : decode cX5_nextNumber 4 = .ok (.aload_n 0, 1) := by decide +kernel
theorem dX5_nextNumber_5 : decode cX5_nextNumber 5 = .ok (.invokevirtual 130, 3) := by decide +kernel
theorem dX5_nextNumber_8 : decode cX5_nextNumber 8 = .ok (.istore_n 3, 1) := by decide +kernel
theorem dX5_nextNumber_9 : decode cX5_nextNumber 9 = .ok (.iload_n 3, 1) := by decide +kernel
theorem dX5_nextNumber_10 : decode cX5_nextNumber 10 = .ok (.iload_n 1, 1) := by decide +kernel
theorem dX5_nextNumber_11 : decode cX5_nextNumber 11 = .ok (.if_icmp .lt 12, 3) := by decide +kernel
theorem dX5_nextNumber_14 : decode cX5_nextNumber 14 = .ok (.iload_n 3, 1) := by decide +kernel
theorem dX5_nextNumber_15 : decode cX5_nextNumber 15 = .ok (.iload_n 2, 1) := by decide +kernel
theorem dX5_nextNumber_16 : decode cX5_nextNumber 16 = .ok (.if_icmp .gt 7, 3) := by decide +kernel
theorem dX5_nextNumber_19 : decode cX5_nextNumber 19 = .ok (.iload_n 3, 1) := by decide +kernel
theorem dX5_nextNumber_20 : decode cX5_nextNumber 20 = .ok (.goto 4, 3) := by decide +kernel
theorem dX5_nextNumber_23 : decode cX5_nextNumber 23 = .ok (.iconst (-1), 1) := by decide +kernel
theorem dX5_nextNumber_24 : decode cX5_nextNumber 24 = .ok (.ireturn, 1) := by decide +kernel
theorem q2_79 : Cond.methodLink RX5 19 yX8_advance ∈ TT := tq2 79 rfl rfl
theorem q2_80 : Cond.instanceMethod yX8_advance ∈ TT := tq2 80 rfl rfl
theorem q2_81 : Cond.selects RX8 yX8_advance yX8_advance ∈ TT := tq2 81 rfl rfl
theorem q2_82 : Cond.code yX8_advance cX8_advance 2 none ∈ TT := tq2 82 rfl rfl
theorem q2_161 : Cond.methodLink RX5 130 yX8_number ∈ TT := tq2 161 rfl rfl
theorem q2_162 : Cond.instanceMethod yX8_number ∈ TT := tq2 162 rfl rfl
theorem q2_163 : Cond.selects RX8 yX8_number yX8_number ∈ TT := tq2 163 rfl rfl
theorem q2_164 : Cond.code yX8_number cX8_number 3 (some .int) ∈ TT := tq2 164 rfl rfl
theorem lk_RX5_19 : vlk RX5 19 yX8_advance cX8_advance 2 none 0 := ⟨List.forall_mem_cons.mpr ⟨q2_79, List.forall_mem_cons.mpr ⟨q2_80, List.forall_mem_cons.mpr ⟨q2_81, List.forall_mem_cons.mpr ⟨q1_2, fun _ h => absurd h List.not_mem_nil⟩⟩⟩⟩, q2_82, by decide, by decide, by decide +kernel⟩
theorem lk_RX5_130 : vlk RX5 130 yX8_number cX8_number 3 (some .int) 0 := ⟨List.forall_mem_cons.mpr ⟨q2_161, List.forall_mem_cons.mpr ⟨q2_162, List.forall_mem_cons.mpr ⟨q2_163, List.forall_mem_cons.mpr ⟨q1_2, fun _ h => absurd h List.not_mem_nil⟩⟩⟩⟩, q2_164, by decide, by decide, by decide +kernel⟩
def F_X5_nextNumber (s_a0 : S8) (x1 : Int32) (x2 : Int32) : Option (Int32 × S8) := (F_X8_advance s_a0).bind fun q_1 => (F_X8_number q_1).bind fun q_2 => nm q_2 fun v3_3 => (if v3_3 < x1 then some ((-1), q_1) else (if x2 < v3_3 then some ((-1), q_1) else some (v3_3, q_1)))
def w_X5_nextNumber (a0 : Nat → Nat) (cB cI cJ cZ : ClassId) (s_a0 : S8) : va_W := List.flatten [(gX8 a0 cB cI cJ cZ s_a0)]
abbrev rm_X5_nextNumber : Room := { frames := 2, cells := 0, slots := 0, locals := 45 }
set_option maxHeartbeats 4000000 in
set_option maxRecDepth 100000 in
theorem c_X5_nextNumber (l : Launch) (D : gG) (cB cI cJ cZ : ClassId) (a0 : Nat → Nat) (s_a0 : S8) (x1 : Int32) (x2 : Int32) (r : Int32 × S8) (hf : F_X5_nextNumber s_a0 x1 x2 = some r) : gM l D (tyL cB cI cJ cZ) yX5_nextNumber cX5_nextNumber 4 (some .int) rm_X5_nextNumber [.ref (a0 0), .int x1, .int x2] (w_X5_nextNumber a0 cB cI cJ cZ s_a0) (some (.int r.1)) (w_X5_nextNumber a0 cB cI cJ cZ r.2) := by
  refine met_of (by decide) (Nat.le_of_ble_eq_true rfl) ?_
  intro p e s m args below meth c A cx hr hA
  show gW p l e rm_X5_nextNumber s m args below meth c D A 4 _ 0 0 _ [(0, .ref (a0 0)), (1, .int x1), (2, .int x2)] 0 []
  rw [F_X5_nextNumber] at hf
  refine g_aln cx 0 dX5_nextNumber_0 rfl ?_
  refine ob hf (fun q_1 hq_1 hf => ?_)
  refine g_callVGv (gs' := [(gX8 a0 cB cI cJ cZ q_1)]) cx lk_RX5_19 (c_X8_advance l D cB cI cJ cZ a0 s_a0 q_1 hq_1) rfl [0] rfl rfl rfl rfl (ci := 6) (q1 := 0) rfl rfl rfl (Nat.le_of_ble_eq_true rfl) ⟨rfl, rfl, Nat.le_of_ble_eq_true rfl, Nat.le_of_ble_eq_true rfl⟩ dX5_nextNumber_1 ?_
  refine g_aln cx 0 dX5_nextNumber_4 rfl ?_
  refine ob hf (fun q_2 hq_2 hf => ?_)
  refine g_callVGiR cx lk_RX5_130 (c_X8_number l D cB cI cJ cZ a0 q_1 q_2 hq_2) rfl [0] rfl rfl (ci := 6) (q1 := 0) rfl rfl rfl (Nat.le_of_ble_eq_true rfl) ⟨rfl, rfl, Nat.le_of_ble_eq_true rfl, Nat.le_of_ble_eq_true rfl⟩ dX5_nextNumber_5 ?_
  refine g_isn cx (L2 := fun v3_3 => [(3, .int v3_3), (0, .ref (a0 0)), (1, .int x1), (2, .int x2)]) hf dX5_nextNumber_8 (Nat.le_of_ble_eq_true rfl) (fun _ => rfl) (fun v3_3 hf => ?_)
  refine g_iln cx 0 dX5_nextNumber_9 rfl ?_
  refine g_iln cx 2 dX5_nextNumber_10 rfl ?_
  refine g_ic_lt (tgt := 23) cx hf dX5_nextNumber_11 rfl (fun hf => ?_) (fun hf => ?_)
  · refine g_ic cx dX5_nextNumber_23 k_icm1 ?_
    exact g_iret (ovf := fun (r : Int32 × S8) => (some (.int r.1))) (wf := fun (r : Int32 × S8) => (w_X5_nextNumber a0 cB cI cJ cZ r.2)) cx hA hr hf rfl rfl dX5_nextNumber_24
  · refine g_iln cx 0 dX5_nextNumber_14 rfl ?_
    refine g_iln cx 3 dX5_nextNumber_15 rfl ?_
    refine g_ic_gt (tgt := 23) cx hf dX5_nextNumber_16 rfl (fun hf => ?_) (fun hf => ?_)
    · refine g_ic cx dX5_nextNumber_23 k_icm1 ?_
      exact g_iret (ovf := fun (r : Int32 × S8) => (some (.int r.1))) (wf := fun (r : Int32 × S8) => (w_X5_nextNumber a0 cB cI cJ cZ r.2)) cx hA hr hf rfl rfl dX5_nextNumber_24
    · refine g_iln cx 0 dX5_nextNumber_19 rfl ?_
      refine g_goto (tgt := 24) cx dX5_nextNumber_20 rfl ?_
      exact g_iret (ovf := fun (r : Int32 × S8) => (some (.int r.1))) (wf := fun (r : Int32 × S8) => (w_X5_nextNumber a0 cB cI cJ cZ r.2)) cx hA hr hf rfl rfl dX5_nextNumber_24
theorem dX5_nextStop_0 : decode cX5_nextStop 0 = .ok (.aload_n 0, 1) := by decide +kernel
theorem dX5_nextStop_1 : decode cX5_nextStop 1 = .ok (.invokevirtual 19, 3) := by decide +kernel
theorem dX5_nextStop_4 : decode cX5_nextStop 4 = .ok (.aload_n 0, 1) := by decide +kernel
theorem dX5_nextStop_5 : decode cX5_nextStop 5 = .ok (.invokevirtual 133, 3) := by decide +kernel
theorem dX5_nextStop_8 : decode cX5_nextStop 8 = .ok (.ireturn, 1) := by decide +kernel
theorem q2_168 : Cond.methodLink RX5 133 yX8_isStop ∈ TT := tq2 168 rfl rfl
theorem q2_169 : Cond.instanceMethod yX8_isStop ∈ TT := tq2 169 rfl rfl
theorem q2_170 : Cond.selects RX8 yX8_isStop yX8_isStop ∈ TT := tq2 170 rfl rfl
theorem q2_171 : Cond.code yX8_isStop cX8_isStop 1 (some .boolean) ∈ TT := tq2 171 rfl rfl
theorem lk_RX5_133 : vlk RX5 133 yX8_isStop cX8_isStop 1 (some .boolean) 0 := ⟨List.forall_mem_cons.mpr ⟨q2_168, List.forall_mem_cons.mpr ⟨q2_169, List.forall_mem_cons.mpr ⟨q2_170, List.forall_mem_cons.mpr ⟨q1_2, fun _ h => absurd h List.not_mem_nil⟩⟩⟩⟩, q2_171, by decide, by decide, by decide +kernel⟩
def F_X5_nextStop (s_a0 : S8) : Option (Int32 × S8) := (F_X8_advance s_a0).bind fun q_1 => (F_X8_isStop q_1).bind fun q_2 => (zb q_2).bind fun z_3 => some (q_2, q_1)
def w_X5_nextStop (a0 : Nat → Nat) (cB cI cJ cZ : ClassId) (s_a0 : S8) : va_W := List.flatten [(gX8 a0 cB cI cJ cZ s_a0)]
abbrev rm_X5_nextStop : Room := { frames := 2, cells := 0, slots := 0, locals := 45 }
set_option maxHeartbeats 4000000 in
set_option maxRecDepth 100000 in
theorem c_X5_nextStop (l : Launch) (D : gG) (cB cI cJ cZ : ClassId) (a0 : Nat → Nat) (s_a0 : S8) (r : Int32 × S8) (hf : F_X5_nextStop s_a0 = some r) : gM l D (tyL cB cI cJ cZ) yX5_nextStop cX5_nextStop 1 (some .boolean) rm_X5_nextStop [.ref (a0 0)] (w_X5_nextStop a0 cB cI cJ cZ s_a0) (some (.int r.1)) (w_X5_nextStop a0 cB cI cJ cZ r.2) := by
  refine met_of (by decide) (Nat.le_of_ble_eq_true rfl) ?_
  intro p e s m args below meth c A cx hr hA
  show gW p l e rm_X5_nextStop s m args below meth c D A 1 _ 0 0 _ [(0, .ref (a0 0))] 0 []
  rw [F_X5_nextStop] at hf
  refine g_aln cx 0 dX5_nextStop_0 rfl ?_
  refine ob hf (fun q_1 hq_1 hf => ?_)
  refine g_callVGv (gs' := [(gX8 a0 cB cI cJ cZ q_1)]) cx lk_RX5_19 (c_X8_advance l D cB cI cJ cZ a0 s_a0 q_1 hq_1) rfl [0] rfl rfl rfl rfl (ci := 6) (q1 := 0) rfl rfl rfl (Nat.le_of_ble_eq_true rfl) ⟨rfl, rfl, Nat.le_of_ble_eq_true rfl, Nat.le_of_ble_eq_true rfl⟩ dX5_nextStop_1 ?_
  refine g_aln cx 0 dX5_nextStop_4 rfl ?_
  refine ob hf (fun q_2 hq_2 hf => ?_)
  refine g_callVGiR cx lk_RX5_133 (c_X8_isStop l D cB cI cJ cZ a0 q_1 q_2 hq_2) rfl [0] rfl rfl (ci := 6) (q1 := 0) rfl rfl rfl (Nat.le_of_ble_eq_true rfl) ⟨rfl, rfl, Nat.le_of_ble_eq_true rfl, Nat.le_of_ble_eq_true rfl⟩ dX5_nextStop_5 ?_
  refine ob hf (fun z_3 hz hf => ?_)
  exact g_zret (ovf := fun (r : Int32 × S8) => (some (.int r.1))) (wf := fun (r : Int32 × S8) => (w_X5_nextStop a0 cB cI cJ cZ r.2)) cx hA hr (zb_some hz).2 hf rfl rfl dX5_nextStop_8
theorem dX5_tellWord_0 : decode cX5_tellWord 0 = .ok (.aload_n 1, 1) := by decide +kernel
theorem dX5_tellWord_1 : decode cX5_tellWord 1 = .ok (.invokevirtual 82, 3) := by decide +kernel
theorem dX5_tellWord_4 : decode cX5_tellWord 4 = .ok (.ifCond .eq 5, 3) := by decide +kernel
theorem dX5_tellWord_7 : decode cX5_tellWord 7 = .ok (.iconst 0, 1) := by decide +kernel
theorem dX5_tellWord_8 : decode cX5_tellWord 8 = .ok (.ireturn, 1) := by decide +kernel
theorem dX5_tellWord_9 : decode cX5_tellWord 9 = .ok (.aload_n 0, 1) := by decide +kernel
theorem dX5_tellWord_10 : decode cX5_tellWord 10 = .ok (.iconst 0, 1) := by decide +kernel
theorem dX5_tellWord_11 : decode cX5_tellWord 11 = .ok (.bipush 25, 2) := by decide +kernel
theorem dX5_tellWord_13 : decode cX5_tellWord 13 = .ok (.invokestatic 87, 3) := by decide +kernel
theorem dX5_tellWord_16 : decode cX5_tellWord 16 = .ok (.istore_n 2, 1) := by decide +kernel
theorem dX5_tellWord_17 : decode cX5_tellWord 17 = .ok (.iload_n 2, 1) := by decide +kernel
theorem dX5_tellWord_18 : decode cX5_tellWord 18 = .ok (.ifCond .ge 5, 3) := by decide +kernel
theorem dX5_tellWord_21 : decode cX5_tellWord 21 = .ok (.iconst 0, 1) := by decide +kernel
theorem dX5_tellWord_22 : decode cX5_tellWord 22 = .ok (.ireturn, 1) := by decide +kernel
theorem dX5_tellWord_23 : decode cX5_tellWord 23 = .ok (.aload_n 0, 1) := by decide +kernel
theorem dX5_tellWord_24 : decode cX5_tellWord 24 = .ok (.iconst 0, 1) := by decide +kernel
theorem dX5_tellWord_25 : decode cX5_tellWord 25 = .ok (.bipush 25, 2) := by decide +kernel
theorem dX5_tellWord_27 : decode cX5_tellWord 27 = .ok (.invokestatic 87, 3) := by decide +kernel
theorem dX5_tellWord_30 : decode cX5_tellWord 30 = .ok (.istore_n 3, 1) := by decide +kernel
theorem dX5_tellWord_31 : decode cX5_tellWord 31 = .ok (.iload_n 3, 1) := by decide +kernel
theorem dX5_tellWord_32 : decode cX5_tellWord 32 = .ok (.ifCond .ge 5, 3) := by decide +kernel
theorem dX5_tellWord_35 : decode cX5_tellWord 35 = .ok (.iconst 0, 1) := by decide +kernel
theorem dX5_tellWord_36 : decode cX5_tellWord 36 = .ok (.ireturn, 1) := by decide +kernel
theorem dX5_tellWord_37 : decode cX5_tellWord 37 = .ok (.aload_n 0, 1) := by decide +kernel
theorem dX5_tellWord_38 : decode cX5_tellWord 38 = .ok (.iconst 0, 1) := by decide +kernel
theorem dX5_tellWord_39 : decode cX5_tellWord 39 = .ok (.bipush 9, 2) := by decide +kernel
theorem dX5_tellWord_41 : decode cX5_tellWord 41 = .ok (.invokestatic 87, 3) := by decide +kernel
theorem dX5_tellWord_44 : decode cX5_tellWord 44 = .ok (.istore 4, 2) := by decide +kernel
theorem dX5_tellWord_46 : decode cX5_tellWord 46 = .ok (.iload 4, 2) := by decide +kernel
theorem dX5_tellWord_48 : decode cX5_tellWord 48 = .ok (.ifCond .ge 5, 3) := by decide +kernel
theorem dX5_tellWord_51 : decode cX5_tellWord 51 = .ok (.iconst 0, 1) := by decide +kernel
theorem dX5_tellWord_52 : decode cX5_tellWord 52 = .ok (.ireturn, 1) := by decide +kernel
theorem dX5_tellWord_53 : decode cX5_tellWord 53 = .ok (.aload_n 0, 1) := by decide +kernel
theorem dX5_tellWord_54 : decode cX5_tellWord 54 = .ok (.iconst 1, 1) := by decide +kernel
theorem dX5_tellWord_55 : decode cX5_tellWord 55 = .ok (.iconst 4, 1) := by decide +kernel
theorem dX5_tellWord_56 : decode cX5_tellWord 56 = .ok (.invokestatic 87, 3) := by decide +kernel
theorem dX5_tellWord_59 : decode cX5_tellWord 59 = .ok (.istore 5, 2) := by decide +kernel
theorem dX5_tellWord_61 : decode cX5_tellWord 61 = .ok (.iload 5, 2) := by decide +kernel
theorem dX5_tellWord_63 : decode cX5_tellWord 63 = .ok (.ifCond .lt 10, 3) := by decide +kernel
theorem dX5_tellWord_66 : decode cX5_tellWord 66 = .ok (.aload_n 0, 1) := by decide +kernel
theorem dX5_tellWord_67 : decode cX5_tellWord 67 = .ok (.invokestatic 91, 3) := by decide +kernel
theorem dX5_tellWord_70 : decode cX5_tellWord 70 = .ok (.ifCond .ne 5, 3) := by decide +kernel
theorem dX5_tellWord_73 : decode cX5_tellWord 73 = .ok (.iconst 0, 1) := by decide +kernel
theorem dX5_tellWord_74 : decode cX5_tellWord 74 = .ok (.ireturn, 1) := by decide +kernel
theorem dX5_tellWord_75 : decode cX5_tellWord 75 = .ok (.aload_n 1, 1) := by decide +kernel
theorem dX5_tellWord_76 : decode cX5_tellWord 76 = .ok (.iload_n 2, 1) := by decide +kernel
theorem dX5_tellWord_77 : decode cX5_tellWord 77 = .ok (.iload_n 3, 1) := by decide +kernel
theorem dX5_tellWord_78 : decode cX5_tellWord 78 = .ok (.iload 4, 2) := by decide +kernel
theorem dX5_tellWord_80 : decode cX5_tellWord 80 = .ok (.iload 5, 2) := by decide +kernel
theorem dX5_tellWord_82 : decode cX5_tellWord 82 = .ok (.invokevirtual 95, 3) := by decide +kernel
theorem dX5_tellWord_85 : decode cX5_tellWord 85 = .ok (.iconst 1, 1) := by decide +kernel
theorem dX5_tellWord_86 : decode cX5_tellWord 86 = .ok (.ireturn, 1) := by decide +kernel
theorem k_bp25 : (Int8.ofInt (25)).toInt32 = 25 := by decide
theorem q1_13 : Cond.initialized RX5 ∈ TT := tq1 13 rfl rfl
theorem q2_154 : Cond.methodLink RX5 82 yX10_isFull ∈ TT := tq2 154 rfl rfl
theorem q2_158 : Cond.methodLink RX5 87 yX5_nextNumber ∈ TT := tq2 158 rfl rfl
theorem q2_159 : Cond.static yX5_nextNumber ∈ TT := tq2 159 rfl rfl
theorem q2_160 : Cond.code yX5_nextNumber cX5_nextNumber 4 (some .int) ∈ TT := tq2 160 rfl rfl
theorem q2_165 : Cond.methodLink RX5 91 yX5_nextStop ∈ TT := tq2 165 rfl rfl
theorem q2_166 : Cond.static yX5_nextStop ∈ TT := tq2 166 rfl rfl
theorem q2_167 : Cond.code yX5_nextStop cX5_nextStop 1 (some .boolean) ∈ TT := tq2 167 rfl rfl
theorem q2_172 : Cond.methodLink RX5 95 yX10_add ∈ TT := tq2 172 rfl rfl
theorem q2_173 : Cond.instanceMethod yX10_add ∈ TT := tq2 173 rfl rfl
theorem q2_174 : Cond.selects RX10 yX10_add yX10_add ∈ TT := tq2 174 rfl rfl
theorem q2_175 : Cond.code yX10_add cX10_add 5 none ∈ TT := tq2 175 rfl rfl
theorem lk_RX5_82 : vlk RX5 82 yX10_isFull cX10_isFull 1 (some .boolean) 0 := ⟨List.forall_mem_cons.mpr ⟨q2_154, List.forall_mem_cons.mpr ⟨q2_155, List.forall_mem_cons.mpr ⟨q2_156, List.forall_mem_cons.mpr ⟨q1_10, fun _ h => absurd h List.not_mem_nil⟩⟩⟩⟩, q2_157, by decide, by decide, by decide +kernel⟩
theorem lk_RX5_87 : slk RX5 87 yX5_nextNumber cX5_nextNumber 4 (some .int) 3 := ⟨List.forall_mem_cons.mpr ⟨q2_158, List.forall_mem_cons.mpr ⟨q2_159, List.forall_mem_cons.mpr ⟨q1_13, fun _ h => absurd h List.not_mem_nil⟩⟩⟩, q2_160, by decide, by decide, by decide +kernel⟩
theorem lk_RX5_91 : slk RX5 91 yX5_nextStop cX5_nextStop 1 (some .boolean) 1 := ⟨List.forall_mem_cons.mpr ⟨q2_165, List.forall_mem_cons.mpr ⟨q2_166, List.forall_mem_cons.mpr ⟨q1_13, fun _ h => absurd h List.not_mem_nil⟩⟩⟩, q2_167, by decide, by decide, by decide +kernel⟩
theorem lk_RX5_95 : vlk RX5 95 yX10_add cX10_add 5 none 4 := ⟨List.forall_mem_cons.mpr ⟨q2_172, List.forall_mem_cons.mpr ⟨q2_173, List.forall_mem_cons.mpr ⟨q2_174, List.forall_mem_cons.mpr ⟨q1_10, fun _ h => absurd h List.not_mem_nil⟩⟩⟩⟩, q2_175, by decide, by decide, by decide +kernel⟩
def F_X5_tellWord (s_a0 : S8) (s_a1 : S10) : Option (Int32 × S8 × S10) := (F_X10_isFull s_a1).bind fun q_1 => (if q_1 = 0 then (F_X5_nextNumber s_a0 0 25).bind fun q_2 => nm q_2.1 fun v2_3 => (if 0 ≤ v2_3 then (F_X5_nextNumber q_2.2 0 25).bind fun q_4 => nm q_4.1 fun v3_5 => (if 0 ≤ v3_5 then (F_X5_nextNumber q_4.2 0 9).bind fun q_6 => nm q_6.1 fun v4_7 => (if 0 ≤ v4_7 then (F_X5_nextNumber q_6.2 1 4).bind fun q_8 => nm q_8.1 fun v5_9 => (if v5_9 < 0 then some (0, q_8.2, s_a1) else (F_X5_nextStop q_8.2).bind fun q_10 => (if q_10.1 = 0 then some (0, q_10.2, s_a1) else (F_X10_add s_a1 v2_3 v3_5 v4_7 v5_9).bind fun q_11 => some (1, q_10.2, q_11))) else some (0, q_6.2, s_a1)) else some (0, q_4.2, s_a1)) else some (0, q_2.2, s_a1)) else some (0, s_a0, s_a1))
def w_X5_tellWord (a0 a1 : Nat → Nat) (cB cI cJ cZ : ClassId) (s_a0 : S8) (s_a1 : S10) : va_W := List.flatten [(gX8 a0 cB cI cJ cZ s_a0), (gX10 a1 cB cI cJ cZ s_a1)]
abbrev rm_X5_tellWord : Room := { frames := 3, cells := 0, slots := 0, locals := 68 }
set_option maxHeartbeats 4000000 in
set_option maxRecDepth 100000 in
theorem c_X5_tellWord (l : Launch) (D : gG) (cB cI cJ cZ : ClassId) (a0 a1 : Nat → Nat) (s_a0 : S8) (s_a1 : S10) (r : Int32 × S8 × S10) (hf : F_X5_tellWord s_a0 s_a1 = some r) : gM l D (tyL cB cI cJ cZ) yX5_tellWord cX5_tellWord 6 (some .boolean) rm_X5_tellWord [.ref (a0 0), .ref (a1 0)] (w_X5_tellWord a0 a1 cB cI cJ cZ s_a0 s_a1) (some (.int r.1)) (w_X5_tellWord a0 a1 cB cI cJ cZ r.2.1 r.2.2) := by
  refine met_of (by decide) (Nat.le_of_ble_eq_true rfl) ?_
  intro p e s m args below meth c A cx hr hA
  show gW p l e rm_X5_tellWord s m args below meth c D A 6 _ 0 0 _ [(0, .ref (a0 0)), (1, .ref (a1 0))] 0 []
  rw [F_X5_tellWord] at hf
  refine g_aln cx 1 dX5_tellWord_0 rfl ?_
  refine ob hf (fun q_1 hq_1 hf => ?_)
  refine g_callVGiR cx lk_RX5_82 (c_X10_isFull l D cB cI cJ cZ a1 s_a1 q_1 hq_1) rfl [1] rfl rfl (ci := 8) (q1 := 0) rfl rfl rfl (Nat.le_of_ble_eq_true rfl) ⟨rfl, rfl, Nat.le_of_ble_eq_true rfl, Nat.le_of_ble_eq_true rfl⟩ dX5_tellWord_1 ?_
  refine g_if_eq (tgt := 9) cx hf dX5_tellWord_4 rfl (fun hf => ?_) (fun hf => ?_)
  · refine g_aln cx 0 dX5_tellWord_9 rfl ?_
    refine g_ic cx dX5_tellWord_10 k_ic0 ?_
    refine g_bp cx dX5_tellWord_11 k_bp25 ?_
    refine ob hf (fun q_2 hq_2 hf => ?_)
    refine g_callSGi (gs' := [(gX8 a0 cB cI cJ cZ q_2.2), (gX10 a1 cB cI cJ cZ s_a1)]) cx lk_RX5_87 (c_X5_nextNumber l D cB cI cJ cZ a0 s_a0 0 25 q_2 hq_2) rfl [0] rfl rfl rfl rfl rfl (Nat.le_of_ble_eq_true rfl) ⟨rfl, rfl, Nat.le_of_ble_eq_true rfl, Nat.le_of_ble_eq_true rfl⟩ dX5_tellWord_13 ?_
    refine g_isn cx (L2 := fun v2_3 => [(2, .int v2_3), (0, .ref (a0 0)), (1, .ref (a1 0))]) hf dX5_tellWord_16 (Nat.le_of_ble_eq_true rfl) (fun _ => rfl) (fun v2_3 hf => ?_)
    refine g_iln cx 0 dX5_tellWord_17 rfl ?_
    refine g_if_ge (tgt := 23) cx hf dX5_tellWord_18 rfl (fun hf => ?_) (fun hf => ?_)
    · refine g_aln cx 1 dX5_tellWord_23 rfl ?_
      refine g_ic cx dX5_tellWord_24 k_ic0 ?_
      refine g_bp cx dX5_tellWord_25 k_bp25 ?_
      refine ob hf (fun q_4 hq_4 hf => ?_)
      refine g_callSGi (gs' := [(gX8 a0 cB cI cJ cZ q_4.2), (gX10 a1 cB cI cJ cZ s_a1)]) cx lk_RX5_87 (c_X5_nextNumber l D cB cI cJ cZ a0 q_2.2 0 25 q_4 hq_4) rfl [0] rfl rfl rfl rfl rfl (Nat.le_of_ble_eq_true rfl) ⟨rfl, rfl, Nat.le_of_ble_eq_true rfl, Nat.le_of_ble_eq_true rfl⟩ dX5_tellWord_27 ?_
      refine g_isn cx (L2 := fun v3_5 => [(3, .int v3_5), (2, .int v2_3), (0, .ref (a0 0)), (1, .ref (a1 0))]) hf dX5_tellWord_30 (Nat.le_of_ble_eq_true rfl) (fun _ => rfl) (fun v3_5 hf => ?_)
      refine g_iln cx 0 dX5_tellWord_31 rfl ?_
      refine g_if_ge (tgt := 37) cx hf dX5_tellWord_32 rfl (fun hf => ?_) (fun hf => ?_)
      · refine g_aln cx 2 dX5_tellWord_37 rfl ?_
        refine g_ic cx dX5_tellWord_38 k_ic0 ?_
        refine g_bp cx dX5_tellWord_39 k_bp9 ?_
        refine ob hf (fun q_6 hq_6 hf => ?_)
        refine g_callSGi (gs' := [(gX8 a0 cB cI cJ cZ q_6.2), (gX10 a1 cB cI cJ cZ s_a1)]) cx lk_RX5_87 (c_X5_nextNumber l D cB cI cJ cZ a0 q_4.2 0 9 q_6 hq_6) rfl [0] rfl rfl rfl rfl rfl (Nat.le_of_ble_eq_true rfl) ⟨rfl, rfl, Nat.le_of_ble_eq_true rfl, Nat.le_of_ble_eq_true rfl⟩ dX5_tellWord_41 ?_
        refine g_is cx (L2 := fun v4_7 => [(4, .int v4_7), (3, .int v3_5), (2, .int v2_3), (0, .ref (a0 0)), (1, .ref (a1 0))]) hf dX5_tellWord_44 (Nat.le_of_ble_eq_true rfl) (fun _ => rfl) (fun v4_7 hf => ?_)
        refine g_il cx 0 dX5_tellWord_46 rfl ?_
        refine g_if_ge (tgt := 53) cx hf dX5_tellWord_48 rfl (fun hf => ?_) (fun hf => ?_)
        · refine g_aln cx 3 dX5_tellWord_53 rfl ?_
          refine g_ic cx dX5_tellWord_54 k_ic1 ?_
          refine g_ic cx dX5_tellWord_55 k_ic4 ?_
          refine ob hf (fun q_8 hq_8 hf => ?_)
          refine g_callSGi (gs' := [(gX8 a0 cB cI cJ cZ q_8.2), (gX10 a1 cB cI cJ cZ s_a1)]) cx lk_RX5_87 (c_X5_nextNumber l D cB cI cJ cZ a0 q_6.2 1 4 q_8 hq_8) rfl [0] rfl rfl rfl rfl rfl (Nat.le_of_ble_eq_true rfl) ⟨rfl, rfl, Nat.le_of_ble_eq_true rfl, Nat.le_of_ble_eq_true rfl⟩ dX5_tellWord_56 ?_
          refine g_is cx (L2 := fun v5_9 => [(5, .int v5_9), (4, .int v4_7), (3, .int v3_5), (2, .int v2_3), (0, .ref (a0 0)), (1, .ref (a1 0))]) hf dX5_tellWord_59 (Nat.le_of_ble_eq_true rfl) (fun _ => rfl) (fun v5_9 hf => ?_)
          refine g_il cx 0 dX5_tellWord_61 rfl ?_
          refine g_if_lt (tgt := 73) cx hf dX5_tellWord_63 rfl (fun hf => ?_) (fun hf => ?_)
          · refine g_ic cx dX5_tellWord_73 k_ic0 ?_
            exact g_zret (ovf := fun (r : Int32 × S8 × S10) => (some (.int r.1))) (wf := fun (r : Int32 × S8 × S10) => (w_X5_tellWord a0 a1 cB cI cJ cZ r.2.1 r.2.2)) cx hA hr rfl hf rfl rfl dX5_tellWord_74
          · refine g_aln cx 4 dX5_tellWord_66 rfl ?_
            refine ob hf (fun q_10 hq_10 hf => ?_)
            refine g_callSGi (gs' := [(gX8 a0 cB cI cJ cZ q_10.2), (gX10 a1 cB cI cJ cZ s_a1)]) cx lk_RX5_91 (c_X5_nextStop l D cB cI cJ cZ a0 q_8.2 q_10 hq_10) rfl [0] rfl rfl rfl rfl rfl (Nat.le_of_ble_eq_true rfl) ⟨rfl, rfl, Nat.le_of_ble_eq_true rfl, Nat.le_of_ble_eq_true rfl⟩ dX5_tellWord_67 ?_
            refine g_if_ne (tgt := 75) cx hf dX5_tellWord_70 rfl (fun hf => ?_) (fun hf => ?_)
            · refine g_aln cx 5 dX5_tellWord_75 rfl ?_
              refine g_iln cx 3 dX5_tellWord_76 rfl ?_
              refine g_iln cx 2 dX5_tellWord_77 rfl ?_
              refine g_il cx 1 dX5_tellWord_78 rfl ?_
              refine g_il cx 0 dX5_tellWord_80 rfl ?_
              refine ob hf (fun q_11 hq_11 hf => ?_)
              refine g_callVGv (gs' := [(gX8 a0 cB cI cJ cZ q_10.2), (gX10 a1 cB cI cJ cZ q_11)]) cx lk_RX5_95 (c_X10_add l D cB cI cJ cZ a1 s_a1 v2_3 v3_5 v4_7 v5_9 q_11 hq_11) rfl [1] rfl rfl rfl rfl (ci := 8) (q1 := 0) rfl rfl rfl (Nat.le_of_ble_eq_true rfl) ⟨rfl, rfl, Nat.le_of_ble_eq_true rfl, Nat.le_of_ble_eq_true rfl⟩ dX5_tellWord_82 ?_
              refine g_ic cx dX5_tellWord_85 k_ic1 ?_
              exact g_zret (ovf := fun (r : Int32 × S8 × S10) => (some (.int r.1))) (wf := fun (r : Int32 × S8 × S10) => (w_X5_tellWord a0 a1 cB cI cJ cZ r.2.1 r.2.2)) cx hA hr rfl hf rfl rfl dX5_tellWord_86
            · refine g_ic cx dX5_tellWord_73 k_ic0 ?_
              exact g_zret (ovf := fun (r : Int32 × S8 × S10) => (some (.int r.1))) (wf := fun (r : Int32 × S8 × S10) => (w_X5_tellWord a0 a1 cB cI cJ cZ r.2.1 r.2.2)) cx hA hr rfl hf rfl rfl dX5_tellWord_74
        · refine g_ic cx dX5_tellWord_51 k_ic0 ?_
          exact g_zret (ovf := fun (r : Int32 × S8 × S10) => (some (.int r.1))) (wf := fun (r : Int32 × S8 × S10) => (w_X5_tellWord a0 a1 cB cI cJ cZ r.2.1 r.2.2)) cx hA hr rfl hf rfl rfl dX5_tellWord_52
      · refine g_ic cx dX5_tellWord_35 k_ic0 ?_
        exact g_zret (ovf := fun (r : Int32 × S8 × S10) => (some (.int r.1))) (wf := fun (r : Int32 × S8 × S10) => (w_X5_tellWord a0 a1 cB cI cJ cZ r.2.1 r.2.2)) cx hA hr rfl hf rfl rfl dX5_tellWord_36
    · refine g_ic cx dX5_tellWord_21 k_ic0 ?_
      exact g_zret (ovf := fun (r : Int32 × S8 × S10) => (some (.int r.1))) (wf := fun (r : Int32 × S8 × S10) => (w_X5_tellWord a0 a1 cB cI cJ cZ r.2.1 r.2.2)) cx hA hr rfl hf rfl rfl dX5_tellWord_22
  · refine g_ic cx dX5_tellWord_7 k_ic0 ?_
    exact g_zret (ovf := fun (r : Int32 × S8 × S10) => (some (.int r.1))) (wf := fun (r : Int32 × S8 × S10) => (w_X5_tellWord a0 a1 cB cI cJ cZ r.2.1 r.2.2)) cx hA hr rfl hf rfl rfl dX5_tellWord_8
theorem dX5_tellForm_0 : decode cX5_tellForm 0 = .ok (.aload_n 1, 1) := by decide +kernel
theorem dX5_tellForm_1 : decode cX5_tellForm 1 = .ok (.invokevirtual 99, 3) := by decide +kernel
theorem dX5_tellForm_4 : decode cX5_tellForm 4 = .ok (.ifCond .eq 5, 3) := by decide +kernel
theorem dX5_tellForm_7 : decode cX5_tellForm 7 = .ok (.iconst 0, 1) := by decide +kernel
theorem dX5_tellForm_8 : decode cX5_tellForm 8 = .ok (.ireturn, 1) := by decide +kernel
theorem dX5_tellForm_9 : decode cX5_tellForm 9 = .ok (.aload_n 0, 1) := by decide +kernel
theorem dX5_tellForm_10 : decode cX5_tellForm 10 = .ok (.invokevirtual 19, 3) := by decide +kernel
theorem dX5_tellForm_13 : decode cX5_tellForm 13 = .ok (.aload_n 0, 1) := by decide +kernel
theorem dX5_tellForm_14 : decode cX5_tellForm 14 = .ok (.invokevirtual 102, 3) := by decide +kernel
theorem dX5_tellForm_17 : decode cX5_tellForm 17 = .ok (.istore_n 2, 1) := by decide +kernel
theorem dX5_tellForm_18 : decode cX5_tellForm 18 = .ok (.iload_n 2, 1) := by decide +kernel
theorem dX5_tellForm_19 : decode cX5_tellForm 19 = .ok (.iconst 1, 1) := by decide +kernel
theorem dX5_tellForm_20 : decode cX5_tellForm 20 = .ok (.if_icmp .lt 9, 3) := by decide +kernel
theorem dX5_tellForm_23 : decode cX5_tellForm 23 = .ok (.iload_n 2, 1) := by decide +kernel
theorem dX5_tellForm_24 : decode cX5_tellForm 24 = .ok (.bipush 8, 2) := by decide +kernel
theorem dX5_tellForm_26 : decode cX5_tellForm 26 = .ok (.if_icmp .le 5, 3) := by decide +kernel
theorem dX5_tellForm_29 : decode cX5_tellForm 29 = .ok (.iconst 0, 1) := by decide +kernel
theorem dX5_tellForm_30 : decode cX5_tellForm 30 = .ok (.ireturn, 1) := by decide +kernel
theorem dX5_tellForm_31 : decode cX5_tellForm 31 = .ok (.aload_n 1, 1) := by decide +kernel
theorem dX5_tellForm_32 : decode cX5_tellForm 32 = .ok (.invokevirtual 105, 3) := by decide +kernel
theorem dX5_tellForm_35 : decode cX5_tellForm 35 = .ok (.iconst 0, 1) := by decide +kernel
theorem dX5_tellForm_36 : decode cX5_tellForm 36 = .ok (.istore_n 3, 1) := by decide +kernel
theorem dX5_tellForm_37 : decode cX5_tellForm 37 = .ok (.iload_n 3, 1) := by decide +kernel
theorem dX5_tellForm_38 : decode cX5_tellForm 38 = .ok (.iload_n 2, 1) := by decide +kernel
theorem dX5_tellForm_39 : decode cX5_tellForm 39 = .ok (.if_icmp .ge 30, 3) := by decide +kernel
theorem dX5_tellForm_42 : decode cX5_tellForm 42 = .ok (.aload_n 0, 1) := by decide +kernel
theorem dX5_tellForm_43 : decode cX5_tellForm 43 = .ok (.iload_n 3, 1) := by decide +kernel
theorem dX5_tellForm_44 : decode cX5_tellForm 44 = .ok (.invokevirtual 108, 3) := by decide +kernel
theorem dX5_tellForm_47 : decode cX5_tellForm 47 = .ok (.bipush 8, 2) := by decide +kernel
theorem dX5_tellForm_49 : decode cX5_tellForm 49 = .ok (.if_icmp .lt 5, 3) := by decide +kernel
theorem dX5_tellForm_52 : decode cX5_tellForm 52 = .ok (.iconst 0, 1) := by decide +kernel
theorem dX5_tellForm_53 : decode cX5_tellForm 53 = .ok (.ireturn, 1) := by decide +kernel
theorem dX5_tellForm_54 : decode cX5_tellForm 54 = .ok (.aload_n 1, 1) := by decide +kernel
theorem dX5_tellForm_55 : decode cX5_tellForm 55 = .ok (.aload_n 0, 1) := by decide +kernel
theorem dX5_tellForm_56 : decode cX5_tellForm 56 = .ok (.iload_n 3, 1) := by decide +kernel
theorem dX5_tellForm_57 : decode cX5_tellForm 57 = .ok (.invokevirtual 108, 3) := by decide +kernel
theorem dX5_tellForm_60 : decode cX5_tellForm 60 = .ok (.invokevirtual 112, 3) := by decide +kernel
theorem dX5_tellForm_63 : decode cX5_tellForm 63 = .ok (.iinc 3 1, 3) := by decide +kernel
theorem dX5_tellForm_66 : decode cX5_tellForm 66 = .ok (.goto (-29), 3) := by decide +kernel
theorem dX5_tellForm_69 : decode cX5_tellForm 69 = .ok (.aload_n 0, 1) := by decide +kernel
theorem dX5_tellForm_70 : decode cX5_tellForm 70 = .ok (.invokestatic 91, 3) := by decide +kernel
theorem dX5_tellForm_73 : decode cX5_tellForm 73 = .ok (.ireturn, 1) := by decide +kernel
theorem q2_184 : Cond.methodLink RX5 99 yX1_isFull ∈ TT := tq2 184 rfl rfl
theorem q2_188 : Cond.methodLink RX5 102 yX8_letters ∈ TT := tq2 188 rfl rfl
theorem q2_189 : Cond.instanceMethod yX8_letters ∈ TT := tq2 189 rfl rfl
theorem q2_190 : Cond.selects RX8 yX8_letters yX8_letters ∈ TT := tq2 190 rfl rfl
theorem q2_191 : Cond.code yX8_letters cX8_letters 1 (some .int) ∈ TT := tq2 191 rfl rfl
theorem q2_192 : Cond.methodLink RX5 105 yX1_begin ∈ TT := tq2 192 rfl rfl
theorem q2_193 : Cond.instanceMethod yX1_begin ∈ TT := tq2 193 rfl rfl
theorem q2_194 : Cond.selects RX1 yX1_begin yX1_begin ∈ TT := tq2 194 rfl rfl
theorem q2_195 : Cond.code yX1_begin cX1_begin 1 none ∈ TT := tq2 195 rfl rfl
theorem q2_198 : Cond.methodLink RX5 108 yX8_letterAt ∈ TT := tq2 198 rfl rfl
theorem q2_199 : Cond.instanceMethod yX8_letterAt ∈ TT := tq2 199 rfl rfl
theorem q2_200 : Cond.selects RX8 yX8_letterAt yX8_letterAt ∈ TT := tq2 200 rfl rfl
theorem q2_201 : Cond.code yX8_letterAt cX8_letterAt 2 (some .int) ∈ TT := tq2 201 rfl rfl
theorem q2_202 : Cond.methodLink RX5 112 yX1_addLetter ∈ TT := tq2 202 rfl rfl
theorem q2_203 : Cond.instanceMethod yX1_addLetter ∈ TT := tq2 203 rfl rfl
theorem q2_204 : Cond.selects RX1 yX1_addLetter yX1_addLetter ∈ TT := tq2 204 rfl rfl
theorem q2_205 : Cond.code yX1_addLetter cX1_addLetter 4 none ∈ TT := tq2 205 rfl rfl
theorem lk_RX5_108 : vlk RX5 108 yX8_letterAt cX8_letterAt 2 (some .int) 1 := ⟨List.forall_mem_cons.mpr ⟨q2_198, List.forall_mem_cons.mpr ⟨q2_199, List.forall_mem_cons.mpr ⟨q2_200, List.forall_mem_cons.mpr ⟨q1_2, fun _ h => absurd h List.not_mem_nil⟩⟩⟩⟩, q2_201, by decide, by decide, by decide +kernel⟩
theorem lk_RX5_112 : vlk RX5 112 yX1_addLetter cX1_addLetter 4 none 1 := ⟨List.forall_mem_cons.mpr ⟨q2_202, List.forall_mem_cons.mpr ⟨q2_203, List.forall_mem_cons.mpr ⟨q2_204, List.forall_mem_cons.mpr ⟨q1_11, fun _ h => absurd h List.not_mem_nil⟩⟩⟩⟩, q2_205, by decide, by decide, by decide +kernel⟩
theorem lk_RX5_99 : vlk RX5 99 yX1_isFull cX1_isFull 1 (some .boolean) 0 := ⟨List.forall_mem_cons.mpr ⟨q2_184, List.forall_mem_cons.mpr ⟨q2_185, List.forall_mem_cons.mpr ⟨q2_186, List.forall_mem_cons.mpr ⟨q1_11, fun _ h => absurd h List.not_mem_nil⟩⟩⟩⟩, q2_187, by decide, by decide, by decide +kernel⟩
theorem lk_RX5_102 : vlk RX5 102 yX8_letters cX8_letters 1 (some .int) 0 := ⟨List.forall_mem_cons.mpr ⟨q2_188, List.forall_mem_cons.mpr ⟨q2_189, List.forall_mem_cons.mpr ⟨q2_190, List.forall_mem_cons.mpr ⟨q1_2, fun _ h => absurd h List.not_mem_nil⟩⟩⟩⟩, q2_191, by decide, by decide, by decide +kernel⟩
theorem lk_RX5_105 : vlk RX5 105 yX1_begin cX1_begin 1 none 0 := ⟨List.forall_mem_cons.mpr ⟨q2_192, List.forall_mem_cons.mpr ⟨q2_193, List.forall_mem_cons.mpr ⟨q2_194, List.forall_mem_cons.mpr ⟨q1_11, fun _ h => absurd h List.not_mem_nil⟩⟩⟩⟩, q2_195, by decide, by decide, by decide +kernel⟩
def F_X5_tellForm_b37 : Nat → Int32 → Int32 → S8 → S1 → Option (Int32 × S8 × S1)
  | 0, _, _, _, _ => none
  | n + 1, v2, v3, zs_a0, zs_a1 => (if v2 ≤ v3 then (F_X5_nextStop zs_a0).bind fun q_1 => (zb q_1.1).bind fun z_2 => some (q_1.1, q_1.2, zs_a1) else (F_X8_letterAt zs_a0 v3).bind fun q_3 => (if q_3 < 8 then (F_X8_letterAt zs_a0 v3).bind fun q_4 => (F_X1_addLetter zs_a1 q_4).bind fun q_5 => nm (v3 + 1) fun v3_6 => (F_X5_tellForm_b37  n) v2 v3_6 zs_a0 q_5 else some (0, zs_a0, zs_a1)))
def F_X5_tellForm (s_a0 : S8) (s_a1 : S1) : Option (Int32 × S8 × S1) := (F_X1_isFull s_a1).bind fun q_7 => (if q_7 = 0 then (F_X8_advance s_a0).bind fun q_8 => (F_X8_letters q_8).bind fun q_9 => nm q_9 fun v2_10 => (if v2_10 < 1 then some (0, q_8, s_a1) else (if v2_10 ≤ 8 then (F_X1_begin s_a1).bind fun q_11 => nm 0 fun v3_12 => F_X5_tellForm_b37  fu v2_10 v3_12 q_8 q_11 else some (0, q_8, s_a1))) else some (0, s_a0, s_a1))
def w_X5_tellForm (a0 a1 : Nat → Nat) (cB cI cJ cZ : ClassId) (s_a0 : S8) (s_a1 : S1) : va_W := List.flatten [(gX8 a0 cB cI cJ cZ s_a0), (gX1 a1 cB cI cJ cZ s_a1)]
abbrev rm_X5_tellForm : Room := { frames := 3, cells := 0, slots := 0, locals := 65 }
set_option maxHeartbeats 4000000 in
set_option maxRecDepth 100000 in
theorem c_X5_tellForm (l : Launch) (D : gG) (cB cI cJ cZ : ClassId) (a0 a1 : Nat → Nat) (s_a0 : S8) (s_a1 : S1) (r : Int32 × S8 × S1) (hf : F_X5_tellForm s_a0 s_a1 = some r) : gM l D (tyL cB cI cJ cZ) yX5_tellForm cX5_tellForm 4 (some .boolean) rm_X5_tellForm [.ref (a0 0), .ref (a1 0)] (w_X5_tellForm a0 a1 cB cI cJ cZ s_a0 s_a1) (some (.int r.1)) (w_X5_tellForm a0 a1 cB cI cJ cZ r.2.1 r.2.2) := by
  refine met_of (by decide) (Nat.le_of_ble_eq_true rfl) ?_
  intro p e s m args below meth c A cx hr hA
  show gW p l e rm_X5_tellForm s m args below meth c D A 4 _ 0 0 _ [(0, .ref (a0 0)), (1, .ref (a1 0))] 0 []
  have h37 : ∀ (n : Nat) (v2 : Int32) (v3 : Int32) (zs_a0 : S8) (zs_a1 : S1), F_X5_tellForm_b37  n v2 v3 zs_a0 zs_a1 = some r → gW p l e rm_X5_tellForm s m args below meth c D A 4 (MQ below (QM D (tyL cB cI cJ cZ) (some (.int r.1)) (w_X5_tellForm a0 a1 cB cI cJ cZ s_a0 s_a1) (w_X5_tellForm a0 a1 cB cI cJ cZ r.2.1 r.2.2) s.heap.size) args s 0 0 A) 0 0 (w_X5_tellForm a0 a1 cB cI cJ cZ zs_a0 zs_a1) [(0, .ref (a0 0)), (1, .ref (a1 0)), (2, .int v2), (3, .int v3)] 37 [] := by
    intro n
    induction n with
    | zero => intro v2 v3 zs_a0 zs_a1 hf; rw [F_X5_tellForm_b37] at hf; cases hf
    | succ n ih =>
      intro v2 v3 zs_a0 zs_a1 hf
      rw [F_X5_tellForm_b37] at hf
      refine g_iln cx 3 dX5_tellForm_37 rfl ?_
      refine g_iln cx 2 dX5_tellForm_38 rfl ?_
      refine g_ic_ge (tgt := 69) cx hf dX5_tellForm_39 rfl (fun hf => ?_) (fun hf => ?_)
      · refine g_aln cx 0 dX5_tellForm_69 rfl ?_
        refine ob hf (fun q_1 hq_1 hf => ?_)
        refine g_callSGi (gs' := [(gX8 a0 cB cI cJ cZ q_1.2), (gX1 a1 cB cI cJ cZ zs_a1)]) cx lk_RX5_91 (c_X5_nextStop l D cB cI cJ cZ a0 zs_a0 q_1 hq_1) rfl [0] rfl rfl rfl rfl rfl (Nat.le_of_ble_eq_true rfl) ⟨rfl, rfl, Nat.le_of_ble_eq_true rfl, Nat.le_of_ble_eq_true rfl⟩ dX5_tellForm_70 ?_
        refine ob hf (fun z_2 hz hf => ?_)
        exact g_zret (ovf := fun (r : Int32 × S8 × S1) => (some (.int r.1))) (wf := fun (r : Int32 × S8 × S1) => (w_X5_tellForm a0 a1 cB cI cJ cZ r.2.1 r.2.2)) cx hA hr (zb_some hz).2 hf rfl rfl dX5_tellForm_73
      · refine g_aln cx 0 dX5_tellForm_42 rfl ?_
        refine g_iln cx 3 dX5_tellForm_43 rfl ?_
        refine ob hf (fun q_3 hq_3 hf => ?_)
        refine g_callVGiR cx lk_RX5_108 (c_X8_letterAt l D cB cI cJ cZ a0 zs_a0 v3 q_3 hq_3) rfl [0] rfl rfl (ci := 6) (q1 := 0) rfl rfl rfl (Nat.le_of_ble_eq_true rfl) ⟨rfl, rfl, Nat.le_of_ble_eq_true rfl, Nat.le_of_ble_eq_true rfl⟩ dX5_tellForm_44 ?_
        refine g_bp cx dX5_tellForm_47 k_bp8 ?_
        refine g_ic_lt (tgt := 54) cx hf dX5_tellForm_49 rfl (fun hf => ?_) (fun hf => ?_)
        · refine g_aln cx 1 dX5_tellForm_54 rfl ?_
          refine g_aln cx 0 dX5_tellForm_55 rfl ?_
          refine g_iln cx 3 dX5_tellForm_56 rfl ?_
          refine ob hf (fun q_4 hq_4 hf => ?_)
          refine g_callVGiR cx lk_RX5_108 (c_X8_letterAt l D cB cI cJ cZ a0 zs_a0 v3 q_4 hq_4) rfl [0] rfl rfl (ci := 6) (q1 := 0) rfl rfl rfl (Nat.le_of_ble_eq_true rfl) ⟨rfl, rfl, Nat.le_of_ble_eq_true rfl, Nat.le_of_ble_eq_true rfl⟩ dX5_tellForm_57 ?_
          refine ob hf (fun q_5 hq_5 hf => ?_)
          refine g_callVGv (gs' := [(gX8 a0 cB cI cJ cZ zs_a0), (gX1 a1 cB cI cJ cZ q_5)]) cx lk_RX5_112 (c_X1_addLetter l D cB cI cJ cZ a1 zs_a1 q_4 q_5 hq_5) rfl [1] rfl rfl rfl rfl (ci := 1) (q1 := 0) rfl rfl rfl (Nat.le_of_ble_eq_true rfl) ⟨rfl, rfl, Nat.le_of_ble_eq_true rfl, Nat.le_of_ble_eq_true rfl⟩ dX5_tellForm_60 ?_
          refine g_inc cx (L2 := fun v3_6 => [(3, .int v3_6), (0, .ref (a0 0)), (1, .ref (a1 0)), (2, .int v2)]) 3 hf dX5_tellForm_63 rfl (k_inc1 _) (Nat.le_of_ble_eq_true rfl) (fun _ => rfl) (fun v3_6 hf => ?_)
          refine g_goto (tgt := 37) cx dX5_tellForm_66 rfl ?_
          refine g_sub [1, 2, 3, 0] rfl ?_
          exact ih _ _ _ _ hf
        · refine g_ic cx dX5_tellForm_52 k_ic0 ?_
          exact g_zret (ovf := fun (r : Int32 × S8 × S1) => (some (.int r.1))) (wf := fun (r : Int32 × S8 × S1) => (w_X5_tellForm a0 a1 cB cI cJ cZ r.2.1 r.2.2)) cx hA hr rfl hf rfl rfl dX5_tellForm_53
  rw [F_X5_tellForm] at hf
  refine g_aln cx 1 dX5_tellForm_0 rfl ?_
  refine ob hf (fun q_7 hq_7 hf => ?_)
  refine g_callVGiR cx lk_RX5_99 (c_X1_isFull l D cB cI cJ cZ a1 s_a1 q_7 hq_7) rfl [1] rfl rfl (ci := 1) (q1 := 0) rfl rfl rfl (Nat.le_of_ble_eq_true rfl) ⟨rfl, rfl, Nat.le_of_ble_eq_true rfl, Nat.le_of_ble_eq_true rfl⟩ dX5_tellForm_1 ?_
  refine g_if_eq (tgt := 9) cx hf dX5_tellForm_4 rfl (fun hf => ?_) (fun hf => ?_)
  · refine g_aln cx 0 dX5_tellForm_9 rfl ?_
    refine ob hf (fun q_8 hq_8 hf => ?_)
    refine g_callVGv (gs' := [(gX8 a0 cB cI cJ cZ q_8), (gX1 a1 cB cI cJ cZ s_a1)]) cx lk_RX5_19 (c_X8_advance l D cB cI cJ cZ a0 s_a0 q_8 hq_8) rfl [0] rfl rfl rfl rfl (ci := 6) (q1 := 0) rfl rfl rfl (Nat.le_of_ble_eq_true rfl) ⟨rfl, rfl, Nat.le_of_ble_eq_true rfl, Nat.le_of_ble_eq_true rfl⟩ dX5_tellForm_10 ?_
    refine g_aln cx 0 dX5_tellForm_13 rfl ?_
    refine ob hf (fun q_9 hq_9 hf => ?_)
    refine g_callVGiR cx lk_RX5_102 (c_X8_letters l D cB cI cJ cZ a0 q_8 q_9 hq_9) rfl [0] rfl rfl (ci := 6) (q1 := 0) rfl rfl rfl (Nat.le_of_ble_eq_true rfl) ⟨rfl, rfl, Nat.le_of_ble_eq_true rfl, Nat.le_of_ble_eq_true rfl⟩ dX5_tellForm_14 ?_
    refine g_isn cx (L2 := fun v2_10 => [(2, .int v2_10), (0, .ref (a0 0)), (1, .ref (a1 0))]) hf dX5_tellForm_17 (Nat.le_of_ble_eq_true rfl) (fun _ => rfl) (fun v2_10 hf => ?_)
    refine g_iln cx 0 dX5_tellForm_18 rfl ?_
    refine g_ic cx dX5_tellForm_19 k_ic1 ?_
    refine g_ic_lt (tgt := 29) cx hf dX5_tellForm_20 rfl (fun hf => ?_) (fun hf => ?_)
    · refine g_ic cx dX5_tellForm_29 k_ic0 ?_
      exact g_zret (ovf := fun (r : Int32 × S8 × S1) => (some (.int r.1))) (wf := fun (r : Int32 × S8 × S1) => (w_X5_tellForm a0 a1 cB cI cJ cZ r.2.1 r.2.2)) cx hA hr rfl hf rfl rfl dX5_tellForm_30
    · refine g_iln cx 0 dX5_tellForm_23 rfl ?_
      refine g_bp cx dX5_tellForm_24 k_bp8 ?_
      refine g_ic_le (tgt := 31) cx hf dX5_tellForm_26 rfl (fun hf => ?_) (fun hf => ?_)
      · refine g_aln cx 2 dX5_tellForm_31 rfl ?_
        refine ob hf (fun q_11 hq_11 hf => ?_)
        refine g_callVGv (gs' := [(gX8 a0 cB cI cJ cZ q_8), (gX1 a1 cB cI cJ cZ q_11)]) cx lk_RX5_105 (c_X1_begin l D cB cI cJ cZ a1 s_a1 q_11 hq_11) rfl [1] rfl rfl rfl rfl (ci := 1) (q1 := 0) rfl rfl rfl (Nat.le_of_ble_eq_true rfl) ⟨rfl, rfl, Nat.le_of_ble_eq_true rfl, Nat.le_of_ble_eq_true rfl⟩ dX5_tellForm_32 ?_
        refine g_ic cx dX5_tellForm_35 k_ic0 ?_
        refine g_isn cx (L2 := fun v3_12 => [(3, .int v3_12), (2, .int v2_10), (0, .ref (a0 0)), (1, .ref (a1 0))]) hf dX5_tellForm_36 (Nat.le_of_ble_eq_true rfl) (fun _ => rfl) (fun v3_12 hf => ?_)
        refine g_sub [2, 3, 1, 0] rfl ?_
        exact h37 fu _ _ _ _ hf
      · refine g_ic cx dX5_tellForm_29 k_ic0 ?_
        exact g_zret (ovf := fun (r : Int32 × S8 × S1) => (some (.int r.1))) (wf := fun (r : Int32 × S8 × S1) => (w_X5_tellForm a0 a1 cB cI cJ cZ r.2.1 r.2.2)) cx hA hr rfl hf rfl rfl dX5_tellForm_30
  · refine g_ic cx dX5_tellForm_7 k_ic0 ?_
    exact g_zret (ovf := fun (r : Int32 × S8 × S1) => (some (.int r.1))) (wf := fun (r : Int32 × S8 × S1) => (w_X5_tellForm a0 a1 cB cI cJ cZ r.2.1 r.2.2)) cx hA hr rfl hf rfl rfl dX5_tellForm_8
theorem dX5_tellMetre_0 : decode cX5_tellMetre 0 = .ok (.aload_n 0, 1) := by decide +kernel
theorem dX5_tellMetre_1 : decode cX5_tellMetre 1 = .ok (.invokevirtual 19, 3) := by decide +kernel
theorem dX5_tellMetre_4 : decode cX5_tellMetre 4 = .ok (.aload_n 0, 1) := by decide +kernel
theorem dX5_tellMetre_5 : decode cX5_tellMetre 5 = .ok (.invokevirtual 102, 3) := by decide +kernel
theorem dX5_tellMetre_8 : decode cX5_tellMetre 8 = .ok (.iconst 1, 1) := by decide +kernel
theorem dX5_tellMetre_9 : decode cX5_tellMetre 9 = .ok (.if_icmp .ne 13, 3) := by decide +kernel
theorem dX5_tellMetre_12 : decode cX5_tellMetre 12 = .ok (.aload_n 0, 1) := by decide +kernel
theorem dX5_tellMetre_13 : decode cX5_tellMetre 13 = .ok (.iconst 0, 1) := by decide +kernel
theorem dX5_tellMetre_14 : decode cX5_tellMetre 14 = .ok (.invokevirtual 108, 3) := by decide +kernel
theorem dX5_tellMetre_17 : decode cX5_tellMetre 17 = .ok (.bipush 8, 2) := by decide +kernel
theorem dX5_tellMetre_19 : decode cX5_tellMetre 19 = .ok (.if_icmp .lt 5, 3) := by decide +kernel
theorem dX5_tellMetre_22 : decode cX5_tellMetre 22 = .ok (.iconst 0, 1) := by decide +kernel
theorem dX5_tellMetre_23 : decode cX5_tellMetre 23 = .ok (.ireturn, 1) := by decide +kernel
theorem dX5_tellMetre_24 : decode cX5_tellMetre 24 = .ok (.aload_n 0, 1) := by decide +kernel
theorem dX5_tellMetre_25 : decode cX5_tellMetre 25 = .ok (.iconst 0, 1) := by decide +kernel
theorem dX5_tellMetre_26 : decode cX5_tellMetre 26 = .ok (.invokevirtual 108, 3) := by decide +kernel
theorem dX5_tellMetre_29 : decode cX5_tellMetre 29 = .ok (.istore_n 2, 1) := by decide +kernel
theorem dX5_tellMetre_30 : decode cX5_tellMetre 30 = .ok (.aload_n 0, 1) := by decide +kernel
theorem dX5_tellMetre_31 : decode cX5_tellMetre 31 = .ok (.iconst 0, 1) := by decide +kernel
theorem dX5_tellMetre_32 : decode cX5_tellMetre 32 = .ok (.bipush 20, 2) := by decide +kernel
theorem dX5_tellMetre_34 : decode cX5_tellMetre 34 = .ok (.invokestatic 87, 3) := by decide +kernel
theorem dX5_tellMetre_37 : decode cX5_tellMetre 37 = .ok (.istore_n 3, 1) := by decide +kernel
theorem dX5_tellMetre_38 : decode cX5_tellMetre 38 = .ok (.iload_n 3, 1) := by decide +kernel
theorem dX5_tellMetre_39 : decode cX5_tellMetre 39 = .ok (.ifCond .lt 10, 3) := by decide +kernel
theorem dX5_tellMetre_42 : decode cX5_tellMetre 42 = .ok (.aload_n 0, 1) := by decide +kernel
theorem dX5_tellMetre_43 : decode cX5_tellMetre 43 = .ok (.invokestatic 91, 3) := by decide +kernel
theorem dX5_tellMetre_46 : decode cX5_tellMetre 46 = .ok (.ifCond .ne 5, 3) := by decide +kernel
theorem dX5_tellMetre_49 : decode cX5_tellMetre 49 = .ok (.iconst 0, 1) := by decide +kernel
theorem dX5_tellMetre_50 : decode cX5_tellMetre 50 = .ok (.ireturn, 1) := by decide +kernel
theorem dX5_tellMetre_51 : decode cX5_tellMetre 51 = .ok (.aload_n 1, 1) := by decide +kernel
theorem dX5_tellMetre_52 : decode cX5_tellMetre 52 = .ok (.iload_n 2, 1) := by decide +kernel
theorem dX5_tellMetre_53 : decode cX5_tellMetre 53 = .ok (.iload_n 3, 1) := by decide +kernel
theorem dX5_tellMetre_54 : decode cX5_tellMetre 54 = .ok (.invokevirtual 116, 3) := by decide +kernel
theorem dX5_tellMetre_57 : decode cX5_tellMetre 57 = .ok (.iconst 1, 1) := by decide +kernel
theorem dX5_tellMetre_58 : decode cX5_tellMetre 58 = .ok (.ireturn, 1) := by decide +kernel
theorem k_bp20 : (Int8.ofInt (20)).toInt32 = 20 := by decide
theorem q2_213 : Cond.methodLink RX5 116 yX7_setMetre ∈ TT := tq2 213 rfl rfl
theorem q2_214 : Cond.instanceMethod yX7_setMetre ∈ TT := tq2 214 rfl rfl
theorem q2_215 : Cond.selects RX7 yX7_setMetre yX7_setMetre ∈ TT := tq2 215 rfl rfl
theorem q2_216 : Cond.code yX7_setMetre cX7_setMetre 3 none ∈ TT := tq2 216 rfl rfl
theorem lk_RX5_116 : vlk RX5 116 yX7_setMetre cX7_setMetre 3 none 2 := ⟨List.forall_mem_cons.mpr ⟨q2_213, List.forall_mem_cons.mpr ⟨q2_214, List.forall_mem_cons.mpr ⟨q2_215, List.forall_mem_cons.mpr ⟨q1_9, fun _ h => absurd h List.not_mem_nil⟩⟩⟩⟩, q2_216, by decide, by decide, by decide +kernel⟩
def F_X5_tellMetre (s_a0 : S8) (s_a1 : S7) : Option (Int32 × S8 × S7) := (F_X8_advance s_a0).bind fun q_1 => (F_X8_letters q_1).bind fun q_2 => (if q_2 = 1 then (F_X8_letterAt q_1 0).bind fun q_3 => (if q_3 < 8 then (F_X8_letterAt q_1 0).bind fun q_4 => nm q_4 fun v2_5 => (F_X5_nextNumber q_1 0 20).bind fun q_6 => nm q_6.1 fun v3_7 => (if v3_7 < 0 then some (0, q_6.2, s_a1) else (F_X5_nextStop q_6.2).bind fun q_8 => (if q_8.1 = 0 then some (0, q_8.2, s_a1) else (F_X7_setMetre s_a1 v2_5 v3_7).bind fun q_9 => some (1, q_8.2, q_9))) else some (0, q_1, s_a1)) else some (0, q_1, s_a1))
def w_X5_tellMetre (a0 a1 a1_words a1_forms a1_paper a1_stock : Nat → Nat) (cB cI cJ cZ : ClassId) (s_a0 : S8) (s_a1 : S7) : va_W := List.flatten [(gX8 a0 cB cI cJ cZ s_a0), (gX7 a1 cB cI cJ cZ (a1_words 0) (a1_forms 0) (a1_paper 0) (a1_stock 0) s_a1)]
abbrev rm_X5_tellMetre : Room := { frames := 3, cells := 0, slots := 0, locals := 68 }
set_option maxHeartbeats 4000000 in
set_option maxRecDepth 100000 in
theorem c_X5_tellMetre (l : Launch) (D : gG) (cB cI cJ cZ : ClassId) (a0 a1 a1_words a1_forms a1_paper a1_stock : Nat → Nat) (s_a0 : S8) (s_a1 : S7) (r : Int32 × S8 × S7) (hf : F_X5_tellMetre s_a0 s_a1 = some r) : gM l D (tyL cB cI cJ cZ) yX5_tellMetre cX5_tellMetre 4 (some .boolean) rm_X5_tellMetre [.ref (a0 0), .ref (a1 0)] (w_X5_tellMetre a0 a1 a1_words a1_forms a1_paper a1_stock cB cI cJ cZ s_a0 s_a1) (some (.int r.1)) (w_X5_tellMetre a0 a1 a1_words a1_forms a1_paper a1_stock cB cI cJ cZ r.2.1 r.2.2) := by
  refine met_of (by decide) (Nat.le_of_ble_eq_true rfl) ?_
  intro p e s m args below meth c A cx hr hA
  show gW p l e rm_X5_tellMetre s m args below meth c D A 4 _ 0 0 _ [(0, .ref (a0 0)), (1, .ref (a1 0))] 0 []
  rw [F_X5_tellMetre] at hf
  refine g_aln cx 0 dX5_tellMetre_0 rfl ?_
  refine ob hf (fun q_1 hq_1 hf => ?_)
  refine g_callVGv (gs' := [(gX8 a0 cB cI cJ cZ q_1), (gX7 a1 cB cI cJ cZ (a1_words 0) (a1_forms 0) (a1_paper 0) (a1_stock 0) s_a1)]) cx lk_RX5_19 (c_X8_advance l D cB cI cJ cZ a0 s_a0 q_1 hq_1) rfl [0] rfl rfl rfl rfl (ci := 6) (q1 := 0) rfl rfl rfl (Nat.le_of_ble_eq_true rfl) ⟨rfl, rfl, Nat.le_of_ble_eq_true rfl, Nat.le_of_ble_eq_true rfl⟩ dX5_tellMetre_1 ?_
  refine g_aln cx 0 dX5_tellMetre_4 rfl ?_
  refine ob hf (fun q_2 hq_2 hf => ?_)
  refine g_callVGiR cx lk_RX5_102 (c_X8_letters l D cB cI cJ cZ a0 q_1 q_2 hq_2) rfl [0] rfl rfl (ci := 6) (q1 := 0) rfl rfl rfl (Nat.le_of_ble_eq_true rfl) ⟨rfl, rfl, Nat.le_of_ble_eq_true rfl, Nat.le_of_ble_eq_true rfl⟩ dX5_tellMetre_5 ?_
  refine g_ic cx dX5_tellMetre_8 k_ic1 ?_
  refine g_ic_ne (tgt := 22) cx hf dX5_tellMetre_9 rfl (fun hf => ?_) (fun hf => ?_)
  · refine g_ic cx dX5_tellMetre_22 k_ic0 ?_
    exact g_zret (ovf := fun (r : Int32 × S8 × S7) => (some (.int r.1))) (wf := fun (r : Int32 × S8 × S7) => (w_X5_tellMetre a0 a1 a1_words a1_forms a1_paper a1_stock cB cI cJ cZ r.2.1 r.2.2)) cx hA hr rfl hf rfl rfl dX5_tellMetre_23
  · refine g_aln cx 0 dX5_tellMetre_12 rfl ?_
    refine g_ic cx dX5_tellMetre_13 k_ic0 ?_
    refine ob hf (fun q_3 hq_3 hf => ?_)
    refine g_callVGiR cx lk_RX5_108 (c_X8_letterAt l D cB cI cJ cZ a0 q_1 0 q_3 hq_3) rfl [0] rfl rfl (ci := 6) (q1 := 0) rfl rfl rfl (Nat.le_of_ble_eq_true rfl) ⟨rfl, rfl, Nat.le_of_ble_eq_true rfl, Nat.le_of_ble_eq_true rfl⟩ dX5_tellMetre_14 ?_
    refine g_bp cx dX5_tellMetre_17 k_bp8 ?_
    refine g_ic_lt (tgt := 24) cx hf dX5_tellMetre_19 rfl (fun hf => ?_) (fun hf => ?_)
    · refine g_aln cx 0 dX5_tellMetre_24 rfl ?_
      refine g_ic cx dX5_tellMetre_25 k_ic0 ?_
      refine ob hf (fun q_4 hq_4 hf => ?_)
      refine g_callVGiR cx lk_RX5_108 (c_X8_letterAt l D cB cI cJ cZ a0 q_1 0 q_4 hq_4) rfl [0] rfl rfl (ci := 6) (q1 := 0) rfl rfl rfl (Nat.le_of_ble_eq_true rfl) ⟨rfl, rfl, Nat.le_of_ble_eq_true rfl, Nat.le_of_ble_eq_true rfl⟩ dX5_tellMetre_26 ?_
      refine g_isn cx (L2 := fun v2_5 => [(2, .int v2_5), (0, .ref (a0 0)), (1, .ref (a1 0))]) hf dX5_tellMetre_29 (Nat.le_of_ble_eq_true rfl) (fun _ => rfl) (fun v2_5 hf => ?_)
      refine g_aln cx 1 dX5_tellMetre_30 rfl ?_
      refine g_ic cx dX5_tellMetre_31 k_ic0 ?_
      refine g_bp cx dX5_tellMetre_32 k_bp20 ?_
      refine ob hf (fun q_6 hq_6 hf => ?_)
      refine g_callSGi (gs' := [(gX8 a0 cB cI cJ cZ q_6.2), (gX7 a1 cB cI cJ cZ (a1_words 0) (a1_forms 0) (a1_paper 0) (a1_stock 0) s_a1)]) cx lk_RX5_87 (c_X5_nextNumber l D cB cI cJ cZ a0 q_1 0 20 q_6 hq_6) rfl [0] rfl rfl rfl rfl rfl (Nat.le_of_ble_eq_true rfl) ⟨rfl, rfl, Nat.le_of_ble_eq_true rfl, Nat.le_of_ble_eq_true rfl⟩ dX5_tellMetre_34 ?_
      refine g_isn cx (L2 := fun v3_7 => [(3, .int v3_7), (2, .int v2_5), (0, .ref (a0 0)), (1, .ref (a1 0))]) hf dX5_tellMetre_37 (Nat.le_of_ble_eq_true rfl) (fun _ => rfl) (fun v3_7 hf => ?_)
      refine g_iln cx 0 dX5_tellMetre_38 rfl ?_
      refine g_if_lt (tgt := 49) cx hf dX5_tellMetre_39 rfl (fun hf => ?_) (fun hf => ?_)
      · refine g_ic cx dX5_tellMetre_49 k_ic0 ?_
        exact g_zret (ovf := fun (r : Int32 × S8 × S7) => (some (.int r.1))) (wf := fun (r : Int32 × S8 × S7) => (w_X5_tellMetre a0 a1 a1_words a1_forms a1_paper a1_stock cB cI cJ cZ r.2.1 r.2.2)) cx hA hr rfl hf rfl rfl dX5_tellMetre_50
      · refine g_aln cx 2 dX5_tellMetre_42 rfl ?_
        refine ob hf (fun q_8 hq_8 hf => ?_)
        refine g_callSGi (gs' := [(gX8 a0 cB cI cJ cZ q_8.2), (gX7 a1 cB cI cJ cZ (a1_words 0) (a1_forms 0) (a1_paper 0) (a1_stock 0) s_a1)]) cx lk_RX5_91 (c_X5_nextStop l D cB cI cJ cZ a0 q_6.2 q_8 hq_8) rfl [0] rfl rfl rfl rfl rfl (Nat.le_of_ble_eq_true rfl) ⟨rfl, rfl, Nat.le_of_ble_eq_true rfl, Nat.le_of_ble_eq_true rfl⟩ dX5_tellMetre_43 ?_
        refine g_if_ne (tgt := 51) cx hf dX5_tellMetre_46 rfl (fun hf => ?_) (fun hf => ?_)
        · refine g_aln cx 3 dX5_tellMetre_51 rfl ?_
          refine g_iln cx 1 dX5_tellMetre_52 rfl ?_
          refine g_iln cx 0 dX5_tellMetre_53 rfl ?_
          refine ob hf (fun q_9 hq_9 hf => ?_)
          refine g_callVGv (gs' := [(gX8 a0 cB cI cJ cZ q_8.2), (gX7 a1 cB cI cJ cZ (a1_words 0) (a1_forms 0) (a1_paper 0) (a1_stock 0) q_9)]) cx lk_RX5_116 (c_X7_setMetre l D cB cI cJ cZ a1 a1_words a1_forms a1_paper a1_stock s_a1 v2_5 v3_7 q_9 hq_9) rfl [1] rfl rfl rfl rfl (ci := 5) (q1 := 0) rfl rfl rfl (Nat.le_of_ble_eq_true rfl) ⟨rfl, rfl, Nat.le_of_ble_eq_true rfl, Nat.le_of_ble_eq_true rfl⟩ dX5_tellMetre_54 ?_
          refine g_ic cx dX5_tellMetre_57 k_ic1 ?_
          exact g_zret (ovf := fun (r : Int32 × S8 × S7) => (some (.int r.1))) (wf := fun (r : Int32 × S8 × S7) => (w_X5_tellMetre a0 a1 a1_words a1_forms a1_paper a1_stock cB cI cJ cZ r.2.1 r.2.2)) cx hA hr rfl hf rfl rfl dX5_tellMetre_58
        · refine g_ic cx dX5_tellMetre_49 k_ic0 ?_
          exact g_zret (ovf := fun (r : Int32 × S8 × S7) => (some (.int r.1))) (wf := fun (r : Int32 × S8 × S7) => (w_X5_tellMetre a0 a1 a1_words a1_forms a1_paper a1_stock cB cI cJ cZ r.2.1 r.2.2)) cx hA hr rfl hf rfl rfl dX5_tellMetre_50
    · refine g_ic cx dX5_tellMetre_22 k_ic0 ?_
      exact g_zret (ovf := fun (r : Int32 × S8 × S7) => (some (.int r.1))) (wf := fun (r : Int32 × S8 × S7) => (w_X5_tellMetre a0 a1 a1_words a1_forms a1_paper a1_stock cB cI cJ cZ r.2.1 r.2.2)) cx hA hr rfl hf rfl rfl dX5_tellMetre_23
theorem dX5_tellLine_0 : decode cX5_tellLine 0 = .ok (.aload_n 2, 1) := by decide +kernel
theorem dX5_tellLine_1 : decode cX5_tellLine 1 = .ok (.invokevirtual 120, 3) := by decide +kernel
theorem dX5_tellLine_4 : decode cX5_tellLine 4 = .ok (.ifCond .eq 5, 3) := by decide +kernel
theorem dX5_tellLine_7 : decode cX5_tellLine 7 = .ok (.iconst 0, 1) := by decide +kernel
theorem dX5_tellLine_8 : decode cX5_tellLine 8 = .ok (.ireturn, 1) := by decide +kernel
theorem dX5_tellLine_9 : decode cX5_tellLine 9 = .ok (.aload_n 0, 1) := by decide +kernel
theorem dX5_tellLine_10 : decode cX5_tellLine 10 = .ok (.iconst 0, 1) := by decide +kernel
theorem dX5_tellLine_11 : decode cX5_tellLine 11 = .ok (.aload_n 1, 1) := by decide +kernel
theorem dX5_tellLine_12 : decode cX5_tellLine 12 = .ok (.invokevirtual 123, 3) := by decide +kernel
theorem dX5_tellLine_15 : decode cX5_tellLine 15 = .ok (.iconst 1, 1) := by decide +kernel
theorem dX5_tellLine_16 : decode cX5_tellLine 16 = .ok (.isub, 1) := by decide +kernel
theorem dX5_tellLine_17 : decode cX5_tellLine 17 = .ok (.invokestatic 87, 3) := by decide +kernel
theorem dX5_tellLine_20 : decode cX5_tellLine 20 = .ok (.istore_n 3, 1) := by decide +kernel
theorem dX5_tellLine_21 : decode cX5_tellLine 21 = .ok (.iload_n 3, 1) := by decide +kernel
theorem dX5_tellLine_22 : decode cX5_tellLine 22 = .ok (.ifCond .ge 5, 3) := by decide +kernel
theorem dX5_tellLine_25 : decode cX5_tellLine 25 = .ok (.iconst 0, 1) := by decide +kernel
theorem dX5_tellLine_26 : decode cX5_tellLine 26 = .ok (.ireturn, 1) := by decide +kernel
theorem dX5_tellLine_27 : decode cX5_tellLine 27 = .ok (.aload_n 0, 1) := by decide +kernel
theorem dX5_tellLine_28 : decode cX5_tellLine 28 = .ok (.iconst 0, 1) := by decide +kernel
theorem dX5_tellLine_29 : decode cX5_tellLine 29 = .ok (.bipush 9, 2) := by decide +kernel
theorem dX5_tellLine_31 : decode cX5_tellLine 31 = .ok (.invokestatic 87, 3) := by decide +kernel
theorem dX5_tellLine_34 : decode cX5_tellLine 34 = .ok (.istore 4, 2) := by decide +kernel
theorem dX5_tellLine_36 : decode cX5_tellLine 36 = .ok (.iload 4, 2) := by decide +kernel
theorem dX5_tellLine_38 : decode cX5_tellLine 38 = .ok (.ifCond .ge 5, 3) := by decide +kernel
theorem dX5_tellLine_41 : decode cX5_tellLine 41 = .ok (.iconst 0, 1) := by decide +kernel
theorem dX5_tellLine_42 : decode cX5_tellLine 42 = .ok (.ireturn, 1) := by decide +kernel
theorem dX5_tellLine_43 : decode cX5_tellLine 43 = .ok (.aload_n 0, 1) := by decide +kernel
theorem dX5_tellLine_44 : decode cX5_tellLine 44 = .ok (.iconst 0, 1) := by decide +kernel
theorem dX5_tellLine_45 : decode cX5_tellLine 45 = .ok (.bipush 16, 2) := by decide +kernel
theorem dX5_tellLine_47 : decode cX5_tellLine 47 = .ok (.invokestatic 87, 3) := by decide +kernel
theorem dX5_tellLine_50 : decode cX5_tellLine 50 = .ok (.istore 5, 2) := by decide +kernel
theorem dX5_tellLine_52 : decode cX5_tellLine 52 = .ok (.iload 5, 2) := by decide +kernel
theorem dX5_tellLine_54 : decode cX5_tellLine 54 = .ok (.ifCond .lt 10, 3) := by decide +kernel
theorem dX5_tellLine_57 : decode cX5_tellLine 57 = .ok (.aload_n 0, 1) := by decide +kernel
theorem dX5_tellLine_58 : decode cX5_tellLine 58 = .ok (.invokestatic 91, 3) := by decide +kernel
theorem dX5_tellLine_61 : decode cX5_tellLine 61 = .ok (.ifCond .ne 5, 3) := by decide +kernel
theorem dX5_tellLine_64 : decode cX5_tellLine 64 = .ok (.iconst 0, 1) := by decide +kernel
theorem dX5_tellLine_65 : decode cX5_tellLine 65 = .ok (.ireturn, 1) := by decide +kernel
theorem dX5_tellLine_66 : decode cX5_tellLine 66 = .ok (.aload_n 2, 1) := by decide +kernel
theorem dX5_tellLine_67 : decode cX5_tellLine 67 = .ok (.aload_n 2, 1) := by decide +kernel
theorem dX5_tellLine_68 : decode cX5_tellLine 68 = .ok (.invokevirtual 126, 3) := by decide +kernel
theorem dX5_tellLine_71 : decode cX5_tellLine 71 = .ok (.iload_n 3, 1) := by decide +kernel
theorem dX5_tellLine_72 : decode cX5_tellLine 72 = .ok (.iload 4, 2) := by decide +kernel
theorem dX5_tellLine_74 : decode cX5_tellLine 74 = .ok (.iload 5, 2) := by decide +kernel
theorem dX5_tellLine_76 : decode cX5_tellLine 76 = .ok (.invokevirtual 127, 3) := by decide +kernel
theorem dX5_tellLine_79 : decode cX5_tellLine 79 = .ok (.iconst 1, 1) := by decide +kernel
theorem dX5_tellLine_80 : decode cX5_tellLine 80 = .ok (.ireturn, 1) := by decide +kernel
theorem q2_222 : Cond.methodLink RX5 120 yX4_isFull ∈ TT := tq2 222 rfl rfl
theorem q2_226 : Cond.methodLink RX5 123 yX10_size ∈ TT := tq2 226 rfl rfl
theorem q2_230 : Cond.methodLink RX5 126 yX4_size ∈ TT := tq2 230 rfl rfl
theorem q2_234 : Cond.methodLink RX5 127 yX4_insert ∈ TT := tq2 234 rfl rfl
theorem lk_RX5_120 : vlk RX5 120 yX4_isFull cX4_isFull 1 (some .boolean) 0 := ⟨List.forall_mem_cons.mpr ⟨q2_222, List.forall_mem_cons.mpr ⟨q2_223, List.forall_mem_cons.mpr ⟨q2_224, List.forall_mem_cons.mpr ⟨q1_4, fun _ h => absurd h List.not_mem_nil⟩⟩⟩⟩, q2_225, by decide, by decide, by decide +kernel⟩
theorem lk_RX5_123 : vlk RX5 123 yX10_size cX10_size 1 (some .int) 0 := ⟨List.forall_mem_cons.mpr ⟨q2_226, List.forall_mem_cons.mpr ⟨q2_227, List.forall_mem_cons.mpr ⟨q2_228, List.forall_mem_cons.mpr ⟨q1_10, fun _ h => absurd h List.not_mem_nil⟩⟩⟩⟩, q2_229, by decide, by decide, by decide +kernel⟩
theorem lk_RX5_126 : vlk RX5 126 yX4_size cX4_size 1 (some .int) 0 := ⟨List.forall_mem_cons.mpr ⟨q2_230, List.forall_mem_cons.mpr ⟨q2_231, List.forall_mem_cons.mpr ⟨q2_232, List.forall_mem_cons.mpr ⟨q1_4, fun _ h => absurd h List.not_mem_nil⟩⟩⟩⟩, q2_233, by decide, by decide, by decide +kernel⟩
theorem lk_RX5_127 : vlk RX5 127 yX4_insert cX4_insert 6 none 4 := ⟨List.forall_mem_cons.mpr ⟨q2_234, List.forall_mem_cons.mpr ⟨q2_235, List.forall_mem_cons.mpr ⟨q2_236, List.forall_mem_cons.mpr ⟨q1_4, fun _ h => absurd h List.not_mem_nil⟩⟩⟩⟩, q2_237, by decide, by decide, by decide +kernel⟩
def F_X5_tellLine (s_a0 : S8) (s_a1 : S10) (s_a2 : S4) : Option (Int32 × S8 × S4) := (F_X4_isFull s_a2).bind fun q_1 => (if q_1 = 0 then (F_X10_size s_a1).bind fun q_2 => (F_X5_nextNumber s_a0 0 (q_2 - 1)).bind fun q_3 => nm q_3.1 fun v3_4 => (if 0 ≤ v3_4 then (F_X5_nextNumber q_3.2 0 9).bind fun q_5 => nm q_5.1 fun v4_6 => (if 0 ≤ v4_6 then (F_X5_nextNumber q_5.2 0 16).bind fun q_7 => nm q_7.1 fun v5_8 => (if v5_8 < 0 then some (0, q_7.2, s_a2) else (F_X5_nextStop q_7.2).bind fun q_9 => (if q_9.1 = 0 then some (0, q_9.2, s_a2) else (F_X4_size s_a2).bind fun q_10 => (F_X4_insert s_a2 q_10 v3_4 v4_6 v5_8).bind fun q_11 => some (1, q_9.2, q_11))) else some (0, q_5.2, s_a2)) else some (0, q_3.2, s_a2)) else some (0, s_a0, s_a2))
def w_X5_tellLine (a0 a1 a2 : Nat → Nat) (cB cI cJ cZ : ClassId) (s_a0 : S8) (s_a1 : S10) (s_a2 : S4) : va_W := List.flatten [(gX8 a0 cB cI cJ cZ s_a0), (gX10 a1 cB cI cJ cZ s_a1), (gX4 a2 cB cI cJ cZ s_a2)]
abbrev rm_X5_tellLine : Room := { frames := 3, cells := 0, slots := 0, locals := 71 }
set_option maxHeartbeats 4000000 in
set_option maxRecDepth 100000 in
theorem c_X5_tellLine (l : Launch) (D : gG) (cB cI cJ cZ : ClassId) (a0 a1 a2 : Nat → Nat) (s_a0 : S8) (s_a1 : S10) (s_a2 : S4) (r : Int32 × S8 × S4) (hf : F_X5_tellLine s_a0 s_a1 s_a2 = some r) : gM l D (tyL cB cI cJ cZ) yX5_tellLine cX5_tellLine 6 (some .boolean) rm_X5_tellLine [.ref (a0 0), .ref (a1 0), .ref (a2 0)] (w_X5_tellLine a0 a1 a2 cB cI cJ cZ s_a0 s_a1 s_a2) (some (.int r.1)) (w_X5_tellLine a0 a1 a2 cB cI cJ cZ r.2.1 s_a1 r.2.2) := by
  refine met_of (by decide) (Nat.le_of_ble_eq_true rfl) ?_
  intro p e s m args below meth c A cx hr hA
  show gW p l e rm_X5_tellLine s m args below meth c D A 6 _ 0 0 _ [(0, .ref (a0 0)), (1, .ref (a1 0)), (2, .ref (a2 0))] 0 []
  rw [F_X5_tellLine] at hf
  refine g_aln cx 2 dX5_tellLine_0 rfl ?_
  refine ob hf (fun q_1 hq_1 hf => ?_)
  refine g_callVGiR cx lk_RX5_120 (c_X4_isFull l D cB cI cJ cZ a2 s_a2 q_1 hq_1) rfl [2] rfl rfl (ci := 4) (q1 := 0) rfl rfl rfl (Nat.le_of_ble_eq_true rfl) ⟨rfl, rfl, Nat.le_of_ble_eq_true rfl, Nat.le_of_ble_eq_true rfl⟩ dX5_tellLine_1 ?_
  refine g_if_eq (tgt := 9) cx hf dX5_tellLine_4 rfl (fun hf => ?_) (fun hf => ?_)
  · refine g_aln cx 0 dX5_tellLine_9 rfl ?_
    refine g_ic cx dX5_tellLine_10 k_ic0 ?_
    refine g_aln cx 1 dX5_tellLine_11 rfl ?_
    refine ob hf (fun q_2 hq_2 hf => ?_)
    refine g_callVGiR cx lk_RX5_123 (c_X10_size l D cB cI cJ cZ a1 s_a1 q_2 hq_2) rfl [1] rfl rfl (ci := 8) (q1 := 0) rfl rfl rfl (Nat.le_of_ble_eq_true rfl) ⟨rfl, rfl, Nat.le_of_ble_eq_true rfl, Nat.le_of_ble_eq_true rfl⟩ dX5_tellLine_12 ?_
    refine g_ic cx dX5_tellLine_15 k_ic1 ?_
    refine g_isub cx dX5_tellLine_16 ?_
    refine ob hf (fun q_3 hq_3 hf => ?_)
    refine g_callSGi (gs' := [(gX8 a0 cB cI cJ cZ q_3.2), (gX10 a1 cB cI cJ cZ s_a1), (gX4 a2 cB cI cJ cZ s_a2)]) cx lk_RX5_87 (c_X5_nextNumber l D cB cI cJ cZ a0 s_a0 0 (q_2 - 1) q_3 hq_3) rfl [0] rfl rfl rfl rfl rfl (Nat.le_of_ble_eq_true rfl) ⟨rfl, rfl, Nat.le_of_ble_eq_true rfl, Nat.le_of_ble_eq_true rfl⟩ dX5_tellLine_17 ?_
    refine g_isn cx (L2 := fun v3_4 => [(3, .int v3_4), (0, .ref (a0 0)), (1, .ref (a1 0)), (2, .ref (a2 0))]) hf dX5_tellLine_20 (Nat.le_of_ble_eq_true rfl) (fun _ => rfl) (fun v3_4 hf => ?_)
    refine g_iln cx 0 dX5_tellLine_21 rfl ?_
    refine g_if_ge (tgt := 27) cx hf dX5_tellLine_22 rfl (fun hf => ?_) (fun hf => ?_)
    · refine g_aln cx 1 dX5_tellLine_27 rfl ?_
      refine g_ic cx dX5_tellLine_28 k_ic0 ?_
      refine g_bp cx dX5_tellLine_29 k_bp9 ?_
      refine ob hf (fun q_5 hq_5 hf => ?_)
      refine g_callSGi (gs' := [(gX8 a0 cB cI cJ cZ q_5.2), (gX10 a1 cB cI cJ cZ s_a1), (gX4 a2 cB cI cJ cZ s_a2)]) cx lk_RX5_87 (c_X5_nextNumber l D cB cI cJ cZ a0 q_3.2 0 9 q_5 hq_5) rfl [0] rfl rfl rfl rfl rfl (Nat.le_of_ble_eq_true rfl) ⟨rfl, rfl, Nat.le_of_ble_eq_true rfl, Nat.le_of_ble_eq_true rfl⟩ dX5_tellLine_31 ?_
      refine g_is cx (L2 := fun v4_6 => [(4, .int v4_6), (3, .int v3_4), (0, .ref (a0 0)), (1, .ref (a1 0)), (2, .ref (a2 0))]) hf dX5_tellLine_34 (Nat.le_of_ble_eq_true rfl) (fun _ => rfl) (fun v4_6 hf => ?_)
      refine g_il cx 0 dX5_tellLine_36 rfl ?_
      refine g_if_ge (tgt := 43) cx hf dX5_tellLine_38 rfl (fun hf => ?_) (fun hf => ?_)
      · refine g_aln cx 2 dX5_tellLine_43 rfl ?_
        refine g_ic cx dX5_tellLine_44 k_ic0 ?_
        refine g_bp cx dX5_tellLine_45 k_bp16 ?_
        refine ob hf (fun q_7 hq_7 hf => ?_)
        refine g_callSGi (gs' := [(gX8 a0 cB cI cJ cZ q_7.2), (gX10 a1 cB cI cJ cZ s_a1), (gX4 a2 cB cI cJ cZ s_a2)]) cx lk_RX5_87 (c_X5_nextNumber l D cB cI cJ cZ a0 q_5.2 0 16 q_7 hq_7) rfl [0] rfl rfl rfl rfl rfl (Nat.le_of_ble_eq_true rfl) ⟨rfl, rfl, Nat.le_of_ble_eq_true rfl, Nat.le_of_ble_eq_true rfl⟩ dX5_tellLine_47 ?_
        refine g_is cx (L2 := fun v5_8 => [(5, .int v5_8), (4, .int v4_6), (3, .int v3_4), (0, .ref (a0 0)), (1, .ref (a1 0)), (2, .ref (a2 0))]) hf dX5_tellLine_50 (Nat.le_of_ble_eq_true rfl) (fun _ => rfl) (fun v5_8 hf => ?_)
        refine g_il cx 0 dX5_tellLine_52 rfl ?_
        refine g_if_lt (tgt := 64) cx hf dX5_tellLine_54 rfl (fun hf => ?_) (fun hf => ?_)
        · refine g_ic cx dX5_tellLine_64 k_ic0 ?_
          exact g_zret (ovf := fun (r : Int32 × S8 × S4) => (some (.int r.1))) (wf := fun (r : Int32 × S8 × S4) => (w_X5_tellLine a0 a1 a2 cB cI cJ cZ r.2.1 s_a1 r.2.2)) cx hA hr rfl hf rfl rfl dX5_tellLine_65
        · refine g_aln cx 3 dX5_tellLine_57 rfl ?_
          refine ob hf (fun q_9 hq_9 hf => ?_)
          refine g_callSGi (gs' := [(gX8 a0 cB cI cJ cZ q_9.2), (gX10 a1 cB cI cJ cZ s_a1), (gX4 a2 cB cI cJ cZ s_a2)]) cx lk_RX5_91 (c_X5_nextStop l D cB cI cJ cZ a0 q_7.2 q_9 hq_9) rfl [0] rfl rfl rfl rfl rfl (Nat.le_of_ble_eq_true rfl) ⟨rfl, rfl, Nat.le_of_ble_eq_true rfl, Nat.le_of_ble_eq_true rfl⟩ dX5_tellLine_58 ?_
          refine g_if_ne (tgt := 66) cx hf dX5_tellLine_61 rfl (fun hf => ?_) (fun hf => ?_)
          · refine g_aln cx 5 dX5_tellLine_66 rfl ?_
            refine g_aln cx 5 dX5_tellLine_67 rfl ?_
            refine ob hf (fun q_10 hq_10 hf => ?_)
            refine g_callVGiR cx lk_RX5_126 (c_X4_size l D cB cI cJ cZ a2 s_a2 q_10 hq_10) rfl [2] rfl rfl (ci := 4) (q1 := 0) rfl rfl rfl (Nat.le_of_ble_eq_true rfl) ⟨rfl, rfl, Nat.le_of_ble_eq_true rfl, Nat.le_of_ble_eq_true rfl⟩ dX5_tellLine_68 ?_
            refine g_iln cx 2 dX5_tellLine_71 rfl ?_
            refine g_il cx 1 dX5_tellLine_72 rfl ?_
            refine g_il cx 0 dX5_tellLine_74 rfl ?_
            refine ob hf (fun q_11 hq_11 hf => ?_)
            refine g_callVGv (gs' := [(gX8 a0 cB cI cJ cZ q_9.2), (gX10 a1 cB cI cJ cZ s_a1), (gX4 a2 cB cI cJ cZ q_11)]) cx lk_RX5_127 (c_X4_insert l D cB cI cJ cZ a2 s_a2 q_10 v3_4 v4_6 v5_8 q_11 hq_11) rfl [2] rfl rfl rfl rfl (ci := 4) (q1 := 0) rfl rfl rfl (Nat.le_of_ble_eq_true rfl) ⟨rfl, rfl, Nat.le_of_ble_eq_true rfl, Nat.le_of_ble_eq_true rfl⟩ dX5_tellLine_76 ?_
            refine g_ic cx dX5_tellLine_79 k_ic1 ?_
            exact g_zret (ovf := fun (r : Int32 × S8 × S4) => (some (.int r.1))) (wf := fun (r : Int32 × S8 × S4) => (w_X5_tellLine a0 a1 a2 cB cI cJ cZ r.2.1 s_a1 r.2.2)) cx hA hr rfl hf rfl rfl dX5_tellLine_80
          · refine g_ic cx dX5_tellLine_64 k_ic0 ?_
            exact g_zret (ovf := fun (r : Int32 × S8 × S4) => (some (.int r.1))) (wf := fun (r : Int32 × S8 × S4) => (w_X5_tellLine a0 a1 a2 cB cI cJ cZ r.2.1 s_a1 r.2.2)) cx hA hr rfl hf rfl rfl dX5_tellLine_65
      · refine g_ic cx dX5_tellLine_41 k_ic0 ?_
        exact g_zret (ovf := fun (r : Int32 × S8 × S4) => (some (.int r.1))) (wf := fun (r : Int32 × S8 × S4) => (w_X5_tellLine a0 a1 a2 cB cI cJ cZ r.2.1 s_a1 r.2.2)) cx hA hr rfl hf rfl rfl dX5_tellLine_42
    · refine g_ic cx dX5_tellLine_25 k_ic0 ?_
      exact g_zret (ovf := fun (r : Int32 × S8 × S4) => (some (.int r.1))) (wf := fun (r : Int32 × S8 × S4) => (w_X5_tellLine a0 a1 a2 cB cI cJ cZ r.2.1 s_a1 r.2.2)) cx hA hr rfl hf rfl rfl dX5_tellLine_26
  · refine g_ic cx dX5_tellLine_7 k_ic0 ?_
    exact g_zret (ovf := fun (r : Int32 × S8 × S4) => (some (.int r.1))) (wf := fun (r : Int32 × S8 × S4) => (w_X5_tellLine a0 a1 a2 cB cI cJ cZ r.2.1 s_a1 r.2.2)) cx hA hr rfl hf rfl rfl dX5_tellLine_8
theorem dX5_tellItem_0 : decode cX5_tellItem 0 = .ok (.aload_n 0, 1) := by decide +kernel
theorem dX5_tellItem_1 : decode cX5_tellItem 1 = .ok (.ldc 39, 2) := by decide +kernel
theorem dX5_tellItem_3 : decode cX5_tellItem 3 = .ok (.invokevirtual 41, 3) := by decide +kernel
theorem dX5_tellItem_6 : decode cX5_tellItem 6 = .ok (.ifCond .eq 12, 3) := by decide +kernel
theorem dX5_tellItem_9 : decode cX5_tellItem 9 = .ok (.aload_n 0, 1) := by decide +kernel
theorem dX5_tellItem_10 : decode cX5_tellItem 10 = .ok (.aload_n 1, 1) := by decide +kernel
theorem dX5_tellItem_11 : decode cX5_tellItem 11 = .ok (.getfield 45, 3) := by decide +kernel
theorem dX5_tellItem_14 : decode cX5_tellItem 14 = .ok (.invokestatic 49, 3) := by decide +kernel
theorem dX5_tellItem_17 : decode cX5_tellItem 17 = .ok (.ireturn, 1) := by decide +kernel
theorem dX5_tellItem_18 : decode cX5_tellItem 18 = .ok (.aload_n 0, 1) := by decide +kernel
theorem dX5_tellItem_19 : decode cX5_tellItem 19 = .ok (.ldc 53, 2) := by decide +kernel
theorem dX5_tellItem_21 : decode cX5_tellItem 21 = .ok (.invokevirtual 41, 3) := by decide +kernel
theorem dX5_tellItem_24 : decode cX5_tellItem 24 = .ok (.ifCond .eq 12, 3) := by decide +kernel
theorem dX5_tellItem_27 : decode cX5_tellItem 27 = .ok (.aload_n 0, 1) := by decide +kernel
theorem dX5_tellItem_28 : decode cX5_tellItem 28 = .ok (.aload_n 1, 1) := by decide +kernel
theorem dX5_tellItem_29 : decode cX5_tellItem 29 = .ok (.getfield 55, 3) := by decide +kernel
theorem dX5_tellItem_32 : decode cX5_tellItem 32 = .ok (.invokestatic 59, 3) := by decide +kernel
theorem dX5_tellItem_35 : decode cX5_tellItem 35 = .ok (.ireturn, 1) := by decide +kernel
theorem dX5_tellItem_36 : decode cX5_tellItem 36 = .ok (.aload_n 0, 1) := by decide +kernel
theorem dX5_tellItem_37 : decode cX5_tellItem 37 = .ok (.ldc 63, 2) := by decide +kernel
theorem dX5_tellItem_39 : decode cX5_tellItem 39 = .ok (.invokevirtual 41, 3) := by decide +kernel
theorem dX5_tellItem_42 : decode cX5_tellItem 42 = .ok (.ifCond .eq 9, 3) := by decide +kernel
theorem dX5_tellItem_45 : decode cX5_tellItem 45 = .ok (.aload_n 0, 1) := by decide +kernel
theorem dX5_tellItem_46 : decode cX5_tellItem 46 = .ok (.aload_n 1, 1) := by decide +kernel
theorem dX5_tellItem_47 : decode cX5_tellItem 47 = .ok (.invokestatic 65, 3) := by decide +kernel
theorem dX5_tellItem_50 : decode cX5_tellItem 50 = .ok (.ireturn, 1) := by decide +kernel
theorem dX5_tellItem_51 : decode cX5_tellItem 51 = .ok (.aload_n 0, 1) := by decide +kernel
theorem dX5_tellItem_52 : decode cX5_tellItem 52 = .ok (.ldc 68, 2) := by decide +kernel
theorem dX5_tellItem_54 : decode cX5_tellItem 54 = .ok (.invokevirtual 41, 3) := by decide +kernel
theorem dX5_tellItem_57 : decode cX5_tellItem 57 = .ok (.ifCond .eq 16, 3) := by decide +kernel
theorem dX5_tellItem_60 : decode cX5_tellItem 60 = .ok (.aload_n 0, 1) := by decide +kernel
theorem dX5_tellItem_61 : decode cX5_tellItem 61 = .ok (.aload_n 1, 1) := by decide +kernel
theorem dX5_tellItem_62 : decode cX5_tellItem 62 = .ok (.getfield 45, 3) := by decide +kernel
theorem dX5_tellItem_65 : decode cX5_tellItem 65 = .ok (.aload_n 1, 1) := by decide +kernel
theorem dX5_tellItem_66 : decode cX5_tellItem 66 = .ok (.getfield 70, 3) := by decide +kernel
theorem dX5_tellItem_69 : decode cX5_tellItem 69 = .ok (.invokestatic 74, 3) := by decide +kernel
theorem dX5_tellItem_72 : decode cX5_tellItem 72 = .ok (.ireturn, 1) := by decide +kernel
theorem dX5_tellItem_73 : decode cX5_tellItem 73 = .ok (.aload_n 0, 1) := by decide +kernel
theorem dX5_tellItem_74 : decode cX5_tellItem 74 = .ok (.ldc 78, 2) := by decide +kernel
theorem dX5_tellItem_76 : decode cX5_tellItem 76 = .ok (.invokevirtual 41, 3) := by decide +kernel
theorem dX5_tellItem_79 : decode cX5_tellItem 79 = .ok (.ifCond .eq 16, 3) := by decide +kernel
theorem dX5_tellItem_82 : decode cX5_tellItem 82 = .ok (.aload_n 0, 1) := by decide +kernel
theorem dX5_tellItem_83 : decode cX5_tellItem 83 = .ok (.aload_n 1, 1) := by decide +kernel
theorem dX5_tellItem_84 : decode cX5_tellItem 84 = .ok (.getfield 45, 3) := by decide +kernel
theorem dX5_tellItem_87 : decode cX5_tellItem 87 = .ok (.aload_n 1, 1) := by decide +kernel
theorem dX5_tellItem_88 : decode cX5_tellItem 88 = .ok (.getfield 80, 3) := by decide +kernel
theorem dX5_tellItem_91 : decode cX5_tellItem 91 = .ok (.invokestatic 74, 3) := by decide +kernel
theorem dX5_tellItem_94 : decode cX5_tellItem 94 = .ok (.ireturn, 1) := by decide +kernel
theorem dX5_tellItem_95 : decode cX5_tellItem 95 = .ok (.iconst 0, 1) := by decide +kernel
theorem dX5_tellItem_96 : decode cX5_tellItem 96 = .ok (.ireturn, 1) := by decide +kernel
theorem q1_201 : Cond.fieldLink RX5 45 "RhymeLaw$Tale" "words" "LRhymeLaw$Words;" ∈ TT := tq1 201 rfl rfl
theorem q1_209 : Cond.fieldLink RX5 55 "RhymeLaw$Tale" "forms" "LRhymeLaw$Forms;" ∈ TT := tq1 209 rfl rfl
theorem q1_214 : Cond.fieldLink RX5 70 "RhymeLaw$Tale" "paper" "LRhymeLaw$Paper;" ∈ TT := tq1 214 rfl rfl
theorem q1_218 : Cond.fieldLink RX5 80 "RhymeLaw$Tale" "stock" "LRhymeLaw$Paper;" ∈ TT := tq1 218 rfl rfl
theorem q2_99 : Cond.methodLink RX5 41 yX8_isNamed ∈ TT := tq2 99 rfl rfl
theorem q2_100 : Cond.instanceMethod yX8_isNamed ∈ TT := tq2 100 rfl rfl
theorem q2_101 : Cond.selects RX8 yX8_isNamed yX8_isNamed ∈ TT := tq2 101 rfl rfl
theorem q2_102 : Cond.code yX8_isNamed cX8_isNamed 3 (some .boolean) ∈ TT := tq2 102 rfl rfl
theorem q2_151 : Cond.methodLink RX5 49 yX5_tellWord ∈ TT := tq2 151 rfl rfl
theorem q2_152 : Cond.static yX5_tellWord ∈ TT := tq2 152 rfl rfl
theorem q2_153 : Cond.code yX5_tellWord cX5_tellWord 6 (some .boolean) ∈ TT := tq2 153 rfl rfl
theorem q2_181 : Cond.methodLink RX5 59 yX5_tellForm ∈ TT := tq2 181 rfl rfl
theorem q2_182 : Cond.static yX5_tellForm ∈ TT := tq2 182 rfl rfl
theorem q2_183 : Cond.code yX5_tellForm cX5_tellForm 4 (some .boolean) ∈ TT := tq2 183 rfl rfl
theorem q2_210 : Cond.methodLink RX5 65 yX5_tellMetre ∈ TT := tq2 210 rfl rfl
theorem q2_211 : Cond.static yX5_tellMetre ∈ TT := tq2 211 rfl rfl
theorem q2_212 : Cond.code yX5_tellMetre cX5_tellMetre 4 (some .boolean) ∈ TT := tq2 212 rfl rfl
theorem q2_219 : Cond.methodLink RX5 74 yX5_tellLine ∈ TT := tq2 219 rfl rfl
theorem q2_220 : Cond.static yX5_tellLine ∈ TT := tq2 220 rfl rfl
theorem q2_221 : Cond.code yX5_tellLine cX5_tellLine 6 (some .boolean) ∈ TT := tq2 221 rfl rfl
theorem lk_RX5_41 : vlk RX5 41 yX8_isNamed cX8_isNamed 3 (some .boolean) 1 := ⟨List.forall_mem_cons.mpr ⟨q2_99, List.forall_mem_cons.mpr ⟨q2_100, List.forall_mem_cons.mpr ⟨q2_101, List.forall_mem_cons.mpr ⟨q1_2, fun _ h => absurd h List.not_mem_nil⟩⟩⟩⟩, q2_102, by decide, by decide, by decide +kernel⟩
theorem fg_RX5_45 {p : Program} {l : Launch} {e : Env} {R : Room} {s : State} {m : MethodId} {args : Array Value} {below : List Frame} {meth : Method} {c : Code} {D : gG} {tys : List (ClassId × FieldType)} {A : Nat → Prop} {nL : Nat} {Q : State → Prop} {cells slots : Nat} {cc : ByteArray} {ws : va_W} {L : List (Nat × Value)} {pc : Nat} {stk : List Value} (cx : gX p s m args meth c cc nL RX5 D tys A) {a : Nat} {fs : List Value} {v : Value} (q0 : Nat) (he : ws[q0]? = some (a, .inr (5, fs))) (hv : fs[0]? = some v) (hd : decode cc pc = .ok (.getfield 45, 3)) (kk : gW p l e R s m args below meth c D A nL Q cells slots ws L (pc + 3) (v :: stk)) : gW p l e R s m args below meth c D A nL Q cells slots ws L pc (.ref a :: stk) :=
  g_get cx (C := RX7) (T := TX7) (N := 5) inT7 rfl 0 (Nat.le_of_ble_eq_true rfl) q1_201 rfl q0 he hv hd kk
theorem fg_RX5_80 {p : Program} {l : Launch} {e : Env} {R : Room} {s : State} {m : MethodId} {args : Array Value} {below : List Frame} {meth : Method} {c : Code} {D : gG} {tys : List (ClassId × FieldType)} {A : Nat → Prop} {nL : Nat} {Q : State → Prop} {cells slots : Nat} {cc : ByteArray} {ws : va_W} {L : List (Nat × Value)} {pc : Nat} {stk : List Value} (cx : gX p s m args meth c cc nL RX5 D tys A) {a : Nat} {fs : List Value} {v : Value} (q0 : Nat) (he : ws[q0]? = some (a, .inr (5, fs))) (hv : fs[3]? = some v) (hd : decode cc pc = .ok (.getfield 80, 3)) (kk : gW p l e R s m args below meth c D A nL Q cells slots ws L (pc + 3) (v :: stk)) : gW p l e R s m args below meth c D A nL Q cells slots ws L pc (.ref a :: stk) :=
  g_get cx (C := RX7) (T := TX7) (N := 5) inT7 rfl 3 (Nat.le_of_ble_eq_true rfl) q1_218 rfl q0 he hv hd kk
theorem lk_RX5_74 : slk RX5 74 yX5_tellLine cX5_tellLine 6 (some .boolean) 3 := ⟨List.forall_mem_cons.mpr ⟨q2_219, List.forall_mem_cons.mpr ⟨q2_220, List.forall_mem_cons.mpr ⟨q1_13, fun _ h => absurd h List.not_mem_nil⟩⟩⟩, q2_221, by decide, by decide, by decide +kernel⟩
theorem fg_RX5_70 {p : Program} {l : Launch} {e : Env} {R : Room} {s : State} {m : MethodId} {args : Array Value} {below : List Frame} {meth : Method} {c : Code} {D : gG} {tys : List (ClassId × FieldType)} {A : Nat → Prop} {nL : Nat} {Q : State → Prop} {cells slots : Nat} {cc : ByteArray} {ws : va_W} {L : List (Nat × Value)} {pc : Nat} {stk : List Value} (cx : gX p s m args meth c cc nL RX5 D tys A) {a : Nat} {fs : List Value} {v : Value} (q0 : Nat) (he : ws[q0]? = some (a, .inr (5, fs))) (hv : fs[2]? = some v) (hd : decode cc pc = .ok (.getfield 70, 3)) (kk : gW p l e R s m args below meth c D A nL Q cells slots ws L (pc + 3) (v :: stk)) : gW p l e R s m args below meth c D A nL Q cells slots ws L pc (.ref a :: stk) :=
  g_get cx (C := RX7) (T := TX7) (N := 5) inT7 rfl 2 (Nat.le_of_ble_eq_true rfl) q1_214 rfl q0 he hv hd kk
theorem lk_RX5_65 : slk RX5 65 yX5_tellMetre cX5_tellMetre 4 (some .boolean) 2 := ⟨List.forall_mem_cons.mpr ⟨q2_210, List.forall_mem_cons.mpr ⟨q2_211, List.forall_mem_cons.mpr ⟨q1_13, fun _ h => absurd h List.not_mem_nil⟩⟩⟩, q2_212, by decide, by decide, by decide +kernel⟩
theorem fg_RX5_55 {p : Program} {l : Launch} {e : Env} {R : Room} {s : State} {m : MethodId} {args : Array Value} {below : List Frame} {meth : Method} {c : Code} {D : gG} {tys : List (ClassId × FieldType)} {A : Nat → Prop} {nL : Nat} {Q : State → Prop} {cells slots : Nat} {cc : ByteArray} {ws : va_W} {L : List (Nat × Value)} {pc : Nat} {stk : List Value} (cx : gX p s m args meth c cc nL RX5 D tys A) {a : Nat} {fs : List Value} {v : Value} (q0 : Nat) (he : ws[q0]? = some (a, .inr (5, fs))) (hv : fs[1]? = some v) (hd : decode cc pc = .ok (.getfield 55, 3)) (kk : gW p l e R s m args below meth c D A nL Q cells slots ws L (pc + 3) (v :: stk)) : gW p l e R s m args below meth c D A nL Q cells slots ws L pc (.ref a :: stk) :=
  g_get cx (C := RX7) (T := TX7) (N := 5) inT7 rfl 1 (Nat.le_of_ble_eq_true rfl) q1_209 rfl q0 he hv hd kk
theorem lk_RX5_59 : slk RX5 59 yX5_tellForm cX5_tellForm 4 (some .boolean) 2 := ⟨List.forall_mem_cons.mpr ⟨q2_181, List.forall_mem_cons.mpr ⟨q2_182, List.forall_mem_cons.mpr ⟨q1_13, fun _ h => absurd h List.not_mem_nil⟩⟩⟩, q2_183, by decide, by decide, by decide +kernel⟩
theorem lk_RX5_49 : slk RX5 49 yX5_tellWord cX5_tellWord 6 (some .boolean) 2 := ⟨List.forall_mem_cons.mpr ⟨q2_151, List.forall_mem_cons.mpr ⟨q2_152, List.forall_mem_cons.mpr ⟨q1_13, fun _ h => absurd h List.not_mem_nil⟩⟩⟩, q2_153, by decide, by decide, by decide +kernel⟩
def F_X5_tellItem (s_a0 : S8) (s_a1 : S7) (s_a1_forms : S1) (s_a1_paper : S4) (s_a1_stock : S4) (s_a1_words : S10) : Option (Int32 × S8 × S7 × S1 × S4 × S4 × S10) := (F_X8_isNamed_word s_a0).bind fun q_1 => (if q_1 = 0 then (F_X8_isNamed_form s_a0).bind fun q_2 => (if q_2 = 0 then (F_X8_isNamed_metre s_a0).bind fun q_3 => (if q_3 = 0 then (F_X8_isNamed_line s_a0).bind fun q_4 => (if q_4 = 0 then (F_X8_isNamed_stock s_a0).bind fun q_5 => (if q_5 = 0 then some (0, s_a0, s_a1, s_a1_forms, s_a1_paper, s_a1_stock, s_a1_words) else (F_X5_tellLine s_a0 s_a1_words s_a1_stock).bind fun q_6 => (zb q_6.1).bind fun z_7 => some (q_6.1, q_6.2.1, s_a1, s_a1_forms, s_a1_paper, q_6.2.2, s_a1_words)) else (F_X5_tellLine s_a0 s_a1_words s_a1_paper).bind fun q_8 => (zb q_8.1).bind fun z_9 => some (q_8.1, q_8.2.1, s_a1, s_a1_forms, q_8.2.2, s_a1_stock, s_a1_words)) else (F_X5_tellMetre s_a0 s_a1).bind fun q_10 => (zb q_10.1).bind fun z_11 => some (q_10.1, q_10.2.1, q_10.2.2, s_a1_forms, s_a1_paper, s_a1_stock, s_a1_words)) else (F_X5_tellForm s_a0 s_a1_forms).bind fun q_12 => (zb q_12.1).bind fun z_13 => some (q_12.1, q_12.2.1, s_a1, q_12.2.2, s_a1_paper, s_a1_stock, s_a1_words)) else (F_X5_tellWord s_a0 s_a1_words).bind fun q_14 => (zb q_14.1).bind fun z_15 => some (q_14.1, q_14.2.1, s_a1, s_a1_forms, s_a1_paper, s_a1_stock, q_14.2.2))
def w_X5_tellItem (a0 a1 a1_forms a1_paper a1_stock a1_words : Nat → Nat) (cB cI cJ cZ : ClassId) (s_a0 : S8) (s_a1 : S7) (s_a1_forms : S1) (s_a1_paper : S4) (s_a1_stock : S4) (s_a1_words : S10) : va_W := List.flatten [(gX8 a0 cB cI cJ cZ s_a0), (gX7 a1 cB cI cJ cZ (a1_words 0) (a1_forms 0) (a1_paper 0) (a1_stock 0) s_a1), (gX1 a1_forms cB cI cJ cZ s_a1_forms), (gX4 a1_paper cB cI cJ cZ s_a1_paper), (gX4 a1_stock cB cI cJ cZ s_a1_stock), (gX10 a1_words cB cI cJ cZ s_a1_words)]
abbrev rm_X5_tellItem : Room := { frames := 5, cells := 0, slots := 0, locals := 107 }
set_option maxHeartbeats 4000000 in
set_option maxRecDepth 100000 in
theorem c_X5_tellItem (l : Launch) (D : gG) (cB cI cJ cZ : ClassId) (a0 a1 a1_forms a1_paper a1_stock a1_words : Nat → Nat) (s_a0 : S8) (s_a1 : S7) (s_a1_forms : S1) (s_a1_paper : S4) (s_a1_stock : S4) (s_a1_words : S10) (r : Int32 × S8 × S7 × S1 × S4 × S4 × S10) (hf : F_X5_tellItem s_a0 s_a1 s_a1_forms s_a1_paper s_a1_stock s_a1_words = some r) : gM l D (tyL cB cI cJ cZ) yX5_tellItem cX5_tellItem 2 (some .boolean) rm_X5_tellItem [.ref (a0 0), .ref (a1 0)] (w_X5_tellItem a0 a1 a1_forms a1_paper a1_stock a1_words cB cI cJ cZ s_a0 s_a1 s_a1_forms s_a1_paper s_a1_stock s_a1_words) (some (.int r.1)) (w_X5_tellItem a0 a1 a1_forms a1_paper a1_stock a1_words cB cI cJ cZ r.2.1 r.2.2.1 r.2.2.2.1 r.2.2.2.2.1 r.2.2.2.2.2.1 r.2.2.2.2.2.2) := by
  refine met_of (by decide) (Nat.le_of_ble_eq_true rfl) ?_
  intro p e s m args below meth c A cx hr hA
  show gW p l e rm_X5_tellItem s m args below meth c D A 2 _ 0 0 _ [(0, .ref (a0 0)), (1, .ref (a1 0))] 0 []
  rw [F_X5_tellItem] at hf
  refine g_aln cx 0 dX5_tellItem_0 rfl ?_
  refine g_ldcS cx (fun h => h.2.1.1) dX5_tellItem_1 ?_
  refine ob hf (fun q_1 hq_1 hf => ?_)
  refine g_callVGiR cx lk_RX5_41 (c_X8_isNamed_word l D cB cI cJ cZ a0 s_a0 q_1 hq_1) rfl [0] rfl rfl (ci := 6) (q1 := 0) rfl rfl rfl (Nat.le_of_ble_eq_true rfl) ⟨rfl, rfl, Nat.le_of_ble_eq_true rfl, Nat.le_of_ble_eq_true rfl⟩ dX5_tellItem_3 ?_
  refine g_if_eq (tgt := 18) cx hf dX5_tellItem_6 rfl (fun hf => ?_) (fun hf => ?_)
  · refine g_aln cx 0 dX5_tellItem_18 rfl ?_
    refine g_ldcS cx (fun h => h.2.1.2.1) dX5_tellItem_19 ?_
    refine ob hf (fun q_2 hq_2 hf => ?_)
    refine g_callVGiR cx lk_RX5_41 (c_X8_isNamed_form l D cB cI cJ cZ a0 s_a0 q_2 hq_2) rfl [0] rfl rfl (ci := 6) (q1 := 0) rfl rfl rfl (Nat.le_of_ble_eq_true rfl) ⟨rfl, rfl, Nat.le_of_ble_eq_true rfl, Nat.le_of_ble_eq_true rfl⟩ dX5_tellItem_21 ?_
    refine g_if_eq (tgt := 36) cx hf dX5_tellItem_24 rfl (fun hf => ?_) (fun hf => ?_)
    · refine g_aln cx 0 dX5_tellItem_36 rfl ?_
      refine g_ldcS cx (fun h => h.2.1.2.2.1) dX5_tellItem_37 ?_
      refine ob hf (fun q_3 hq_3 hf => ?_)
      refine g_callVGiR cx lk_RX5_41 (c_X8_isNamed_metre l D cB cI cJ cZ a0 s_a0 q_3 hq_3) rfl [0] rfl rfl (ci := 6) (q1 := 0) rfl rfl rfl (Nat.le_of_ble_eq_true rfl) ⟨rfl, rfl, Nat.le_of_ble_eq_true rfl, Nat.le_of_ble_eq_true rfl⟩ dX5_tellItem_39 ?_
      refine g_if_eq (tgt := 51) cx hf dX5_tellItem_42 rfl (fun hf => ?_) (fun hf => ?_)
      · refine g_aln cx 0 dX5_tellItem_51 rfl ?_
        refine g_ldcS cx (fun h => h.2.1.2.2.2.1) dX5_tellItem_52 ?_
        refine ob hf (fun q_4 hq_4 hf => ?_)
        refine g_callVGiR cx lk_RX5_41 (c_X8_isNamed_line l D cB cI cJ cZ a0 s_a0 q_4 hq_4) rfl [0] rfl rfl (ci := 6) (q1 := 0) rfl rfl rfl (Nat.le_of_ble_eq_true rfl) ⟨rfl, rfl, Nat.le_of_ble_eq_true rfl, Nat.le_of_ble_eq_true rfl⟩ dX5_tellItem_54 ?_
        refine g_if_eq (tgt := 73) cx hf dX5_tellItem_57 rfl (fun hf => ?_) (fun hf => ?_)
        · refine g_aln cx 0 dX5_tellItem_73 rfl ?_
          refine g_ldcS cx (fun h => h.2.1.2.2.2.2) dX5_tellItem_74 ?_
          refine ob hf (fun q_5 hq_5 hf => ?_)
          refine g_callVGiR cx lk_RX5_41 (c_X8_isNamed_stock l D cB cI cJ cZ a0 s_a0 q_5 hq_5) rfl [0] rfl rfl (ci := 6) (q1 := 0) rfl rfl rfl (Nat.le_of_ble_eq_true rfl) ⟨rfl, rfl, Nat.le_of_ble_eq_true rfl, Nat.le_of_ble_eq_true rfl⟩ dX5_tellItem_76 ?_
          refine g_if_eq (tgt := 95) cx hf dX5_tellItem_79 rfl (fun hf => ?_) (fun hf => ?_)
          · refine g_ic cx dX5_tellItem_95 k_ic0 ?_
            exact g_zret (ovf := fun (r : Int32 × S8 × S7 × S1 × S4 × S4 × S10) => (some (.int r.1))) (wf := fun (r : Int32 × S8 × S7 × S1 × S4 × S4 × S10) => (w_X5_tellItem a0 a1 a1_forms a1_paper a1_stock a1_words cB cI cJ cZ r.2.1 r.2.2.1 r.2.2.2.1 r.2.2.2.2.1 r.2.2.2.2.2.1 r.2.2.2.2.2.2)) cx hA hr rfl hf rfl rfl dX5_tellItem_96
          · refine g_aln cx 0 dX5_tellItem_82 rfl ?_
            refine g_aln cx 1 dX5_tellItem_83 rfl ?_
            refine fg_RX5_45 cx 2 rfl rfl dX5_tellItem_84 ?_
            refine g_aln cx 1 dX5_tellItem_87 rfl ?_
            refine fg_RX5_80 cx 2 rfl rfl dX5_tellItem_88 ?_
            refine ob hf (fun q_6 hq_6 hf => ?_)
            refine g_callSGi (gs' := [(gX8 a0 cB cI cJ cZ q_6.2.1), (gX7 a1 cB cI cJ cZ (a1_words 0) (a1_forms 0) (a1_paper 0) (a1_stock 0) s_a1), (gX1 a1_forms cB cI cJ cZ s_a1_forms), (gX4 a1_paper cB cI cJ cZ s_a1_paper), (gX4 a1_stock cB cI cJ cZ q_6.2.2), (gX10 a1_words cB cI cJ cZ s_a1_words)]) cx lk_RX5_74 (c_X5_tellLine l D cB cI cJ cZ a0 a1_words a1_stock s_a0 s_a1_words s_a1_stock q_6 hq_6) rfl [0, 5, 4] rfl rfl rfl rfl rfl (Nat.le_of_ble_eq_true rfl) ⟨rfl, rfl, Nat.le_of_ble_eq_true rfl, Nat.le_of_ble_eq_true rfl⟩ dX5_tellItem_91 ?_
            refine ob hf (fun z_7 hz hf => ?_)
            exact g_zret (ovf := fun (r : Int32 × S8 × S7 × S1 × S4 × S4 × S10) => (some (.int r.1))) (wf := fun (r : Int32 × S8 × S7 × S1 × S4 × S4 × S10) => (w_X5_tellItem a0 a1 a1_forms a1_paper a1_stock a1_words cB cI cJ cZ r.2.1 r.2.2.1 r.2.2.2.1 r.2.2.2.2.1 r.2.2.2.2.2.1 r.2.2.2.2.2.2)) cx hA hr (zb_some hz).2 hf rfl rfl dX5_tellItem_94
        · refine g_aln cx 0 dX5_tellItem_60 rfl ?_
          refine g_aln cx 1 dX5_tellItem_61 rfl ?_
          refine fg_RX5_45 cx 2 rfl rfl dX5_tellItem_62 ?_
          refine g_aln cx 1 dX5_tellItem_65 rfl ?_
          refine fg_RX5_70 cx 2 rfl rfl dX5_tellItem_66 ?_
          refine ob hf (fun q_8 hq_8 hf => ?_)
          refine g_callSGi (gs' := [(gX8 a0 cB cI cJ cZ q_8.2.1), (gX7 a1 cB cI cJ cZ (a1_words 0) (a1_forms 0) (a1_paper 0) (a1_stock 0) s_a1), (gX1 a1_forms cB cI cJ cZ s_a1_forms), (gX4 a1_paper cB cI cJ cZ q_8.2.2), (gX4 a1_stock cB cI cJ cZ s_a1_stock), (gX10 a1_words cB cI cJ cZ s_a1_words)]) cx lk_RX5_74 (c_X5_tellLine l D cB cI cJ cZ a0 a1_words a1_paper s_a0 s_a1_words s_a1_paper q_8 hq_8) rfl [0, 5, 3] rfl rfl rfl rfl rfl (Nat.le_of_ble_eq_true rfl) ⟨rfl, rfl, Nat.le_of_ble_eq_true rfl, Nat.le_of_ble_eq_true rfl⟩ dX5_tellItem_69 ?_
          refine ob hf (fun z_9 hz hf => ?_)
          exact g_zret (ovf := fun (r : Int32 × S8 × S7 × S1 × S4 × S4 × S10) => (some (.int r.1))) (wf := fun (r : Int32 × S8 × S7 × S1 × S4 × S4 × S10) => (w_X5_tellItem a0 a1 a1_forms a1_paper a1_stock a1_words cB cI cJ cZ r.2.1 r.2.2.1 r.2.2.2.1 r.2.2.2.2.1 r.2.2.2.2.2.1 r.2.2.2.2.2.2)) cx hA hr (zb_some hz).2 hf rfl rfl dX5_tellItem_72
      · refine g_aln cx 0 dX5_tellItem_45 rfl ?_
        refine g_aln cx 1 dX5_tellItem_46 rfl ?_
        refine ob hf (fun q_10 hq_10 hf => ?_)
        refine g_callSGi (gs' := [(gX8 a0 cB cI cJ cZ q_10.2.1), (gX7 a1 cB cI cJ cZ (a1_words 0) (a1_forms 0) (a1_paper 0) (a1_stock 0) q_10.2.2), (gX1 a1_forms cB cI cJ cZ s_a1_forms), (gX4 a1_paper cB cI cJ cZ s_a1_paper), (gX4 a1_stock cB cI cJ cZ s_a1_stock), (gX10 a1_words cB cI cJ cZ s_a1_words)]) cx lk_RX5_65 (c_X5_tellMetre l D cB cI cJ cZ a0 a1 a1_words a1_forms a1_paper a1_stock s_a0 s_a1 q_10 hq_10) rfl [0, 1] rfl rfl rfl rfl rfl (Nat.le_of_ble_eq_true rfl) ⟨rfl, rfl, Nat.le_of_ble_eq_true rfl, Nat.le_of_ble_eq_true rfl⟩ dX5_tellItem_47 ?_
        refine ob hf (fun z_11 hz hf => ?_)
        exact g_zret (ovf := fun (r : Int32 × S8 × S7 × S1 × S4 × S4 × S10) => (some (.int r.1))) (wf := fun (r : Int32 × S8 × S7 × S1 × S4 × S4 × S10) => (w_X5_tellItem a0 a1 a1_forms a1_paper a1_stock a1_words cB cI cJ cZ r.2.1 r.2.2.1 r.2.2.2.1 r.2.2.2.2.1 r.2.2.2.2.2.1 r.2.2.2.2.2.2)) cx hA hr (zb_some hz).2 hf rfl rfl dX5_tellItem_50
    · refine g_aln cx 0 dX5_tellItem_27 rfl ?_
      refine g_aln cx 1 dX5_tellItem_28 rfl ?_
      refine fg_RX5_55 cx 2 rfl rfl dX5_tellItem_29 ?_
      refine ob hf (fun q_12 hq_12 hf => ?_)
      refine g_callSGi (gs' := [(gX8 a0 cB cI cJ cZ q_12.2.1), (gX7 a1 cB cI cJ cZ (a1_words 0) (a1_forms 0) (a1_paper 0) (a1_stock 0) s_a1), (gX1 a1_forms cB cI cJ cZ q_12.2.2), (gX4 a1_paper cB cI cJ cZ s_a1_paper), (gX4 a1_stock cB cI cJ cZ s_a1_stock), (gX10 a1_words cB cI cJ cZ s_a1_words)]) cx lk_RX5_59 (c_X5_tellForm l D cB cI cJ cZ a0 a1_forms s_a0 s_a1_forms q_12 hq_12) rfl [0, 2] rfl rfl rfl rfl rfl (Nat.le_of_ble_eq_true rfl) ⟨rfl, rfl, Nat.le_of_ble_eq_true rfl, Nat.le_of_ble_eq_true rfl⟩ dX5_tellItem_32 ?_
      refine ob hf (fun z_13 hz hf => ?_)
      exact g_zret (ovf := fun (r : Int32 × S8 × S7 × S1 × S4 × S4 × S10) => (some (.int r.1))) (wf := fun (r : Int32 × S8 × S7 × S1 × S4 × S4 × S10) => (w_X5_tellItem a0 a1 a1_forms a1_paper a1_stock a1_words cB cI cJ cZ r.2.1 r.2.2.1 r.2.2.2.1 r.2.2.2.2.1 r.2.2.2.2.2.1 r.2.2.2.2.2.2)) cx hA hr (zb_some hz).2 hf rfl rfl dX5_tellItem_35
  · refine g_aln cx 0 dX5_tellItem_9 rfl ?_
    refine g_aln cx 1 dX5_tellItem_10 rfl ?_
    refine fg_RX5_45 cx 2 rfl rfl dX5_tellItem_11 ?_
    refine ob hf (fun q_14 hq_14 hf => ?_)
    refine g_callSGi (gs' := [(gX8 a0 cB cI cJ cZ q_14.2.1), (gX7 a1 cB cI cJ cZ (a1_words 0) (a1_forms 0) (a1_paper 0) (a1_stock 0) s_a1), (gX1 a1_forms cB cI cJ cZ s_a1_forms), (gX4 a1_paper cB cI cJ cZ s_a1_paper), (gX4 a1_stock cB cI cJ cZ s_a1_stock), (gX10 a1_words cB cI cJ cZ q_14.2.2)]) cx lk_RX5_49 (c_X5_tellWord l D cB cI cJ cZ a0 a1_words s_a0 s_a1_words q_14 hq_14) rfl [0, 5] rfl rfl rfl rfl rfl (Nat.le_of_ble_eq_true rfl) ⟨rfl, rfl, Nat.le_of_ble_eq_true rfl, Nat.le_of_ble_eq_true rfl⟩ dX5_tellItem_14 ?_
    refine ob hf (fun z_15 hz hf => ?_)
    exact g_zret (ovf := fun (r : Int32 × S8 × S7 × S1 × S4 × S4 × S10) => (some (.int r.1))) (wf := fun (r : Int32 × S8 × S7 × S1 × S4 × S4 × S10) => (w_X5_tellItem a0 a1 a1_forms a1_paper a1_stock a1_words cB cI cJ cZ r.2.1 r.2.2.1 r.2.2.2.1 r.2.2.2.2.1 r.2.2.2.2.2.1 r.2.2.2.2.2.2)) cx hA hr (zb_some hz).2 hf rfl rfl dX5_tellItem_17
theorem dX5_tell_0 : decode cX5_tell 0 = .ok (.aload_n 1, 1) := by decide +kernel
theorem dX5_tell_1 : decode cX5_tell 1 = .ok (.invokevirtual 9, 3) := by decide +kernel
theorem dX5_tell_4 : decode cX5_tell 4 = .ok (.aload_n 0, 1) := by decide +kernel
theorem dX5_tell_5 : decode cX5_tell 5 = .ok (.invokevirtual 14, 3) := by decide +kernel
theorem dX5_tell_8 : decode cX5_tell 8 = .ok (.iconst 0, 1) := by decide +kernel
theorem dX5_tell_9 : decode cX5_tell 9 = .ok (.istore_n 2, 1) := by decide +kernel
theorem dX5_tell_10 : decode cX5_tell 10 = .ok (.iload_n 2, 1) := by decide +kernel
theorem dX5_tell_11 : decode cX5_tell 11 = .ok (.sipush 500, 3) := by decide +kernel
theorem dX5_tell_14 : decode cX5_tell 14 = .ok (.if_icmp .gt 38, 3) := by decide +kernel
theorem dX5_tell_17 : decode cX5_tell 17 = .ok (.aload_n 0, 1) := by decide +kernel
theorem dX5_tell_18 : decode cX5_tell 18 = .ok (.invokevirtual 19, 3) := by decide +kernel
theorem dX5_tell_21 : decode cX5_tell 21 = .ok (.aload_n 0, 1) := by decide +kernel
theorem dX5_tell_22 : decode cX5_tell 22 = .ok (.invokevirtual 22, 3) := by decide +kernel
theorem dX5_tell_25 : decode cX5_tell 25 = .ok (.ifCond .eq 5, 3) := by decide +kernel
theorem dX5_tell_28 : decode cX5_tell 28 = .ok (.iload_n 2, 1) := by decide +kernel
theorem dX5_tell_29 : decode cX5_tell 29 = .ok (.ireturn, 1) := by decide +kernel
theorem dX5_tell_30 : decode cX5_tell 30 = .ok (.aload_n 0, 1) := by decide +kernel
theorem dX5_tell_31 : decode cX5_tell 31 = .ok (.aload_n 1, 1) := by decide +kernel
theorem dX5_tell_32 : decode cX5_tell 32 = .ok (.invokestatic 26, 3) := by decide +kernel
theorem dX5_tell_35 : decode cX5_tell 35 = .ok (.ifCond .ne 11, 3) := by decide +kernel
theorem dX5_tell_38 : decode cX5_tell 38 = .ok (.bipush (-10), 2) := by decide +kernel
theorem dX5_tell_40 : decode cX5_tell 40 = .ok (.aload_n 0, 1) := by decide +kernel
theorem dX5_tell_41 : decode cX5_tell 41 = .ok (.invokevirtual 32, 3) := by decide +kernel
theorem dX5_tell_44 : decode cX5_tell 44 = .ok (.isub, 1) := by decide +kernel
theorem dX5_tell_45 : decode cX5_tell 45 = .ok (.ireturn, 1) := by decide +kernel
theorem dX5_tell_46 : decode cX5_tell 46 = .ok (.iinc 2 1, 3) := by decide +kernel
theorem dX5_tell_49 : decode cX5_tell 49 = .ok (.goto (-39), 3) := by decide +kernel
theorem dX5_tell_52 : decode cX5_tell 52 = .ok (.bipush (-10), 2) := by decide +kernel
theorem dX5_tell_54 : decode cX5_tell 54 = .ok (.aload_n 0, 1) := by decide +kernel
theorem dX5_tell_55 : decode cX5_tell 55 = .ok (.invokevirtual 36, 3) := by decide +kernel
theorem dX5_tell_58 : decode cX5_tell 58 = .ok (.isub, 1) := by decide +kernel
theorem dX5_tell_59 : decode cX5_tell 59 = .ok (.ireturn, 1) := by decide +kernel
theorem k_bpm10 : (Int8.ofInt (-10)).toInt32 = (-10) := by decide
theorem k_sp500 : (Int16.ofInt (500)).toInt32 = 500 := by decide
theorem q2_34 : Cond.instanceMethod yX8_length ∈ TT := tq2 34 rfl rfl
theorem q2_35 : Cond.selects RX8 yX8_length yX8_length ∈ TT := tq2 35 rfl rfl
theorem q2_36 : Cond.code yX8_length cX8_length 1 (some .int) ∈ TT := tq2 36 rfl rfl
theorem q2_56 : Cond.methodLink RX5 9 yX7_wipe ∈ TT := tq2 56 rfl rfl
theorem q2_57 : Cond.instanceMethod yX7_wipe ∈ TT := tq2 57 rfl rfl
theorem q2_58 : Cond.selects RX7 yX7_wipe yX7_wipe ∈ TT := tq2 58 rfl rfl
theorem q2_59 : Cond.code yX7_wipe cX7_wipe 1 none ∈ TT := tq2 59 rfl rfl
theorem q2_75 : Cond.methodLink RX5 14 yX8_rewind ∈ TT := tq2 75 rfl rfl
theorem q2_76 : Cond.instanceMethod yX8_rewind ∈ TT := tq2 76 rfl rfl
theorem q2_77 : Cond.selects RX8 yX8_rewind yX8_rewind ∈ TT := tq2 77 rfl rfl
theorem q2_78 : Cond.code yX8_rewind cX8_rewind 1 none ∈ TT := tq2 78 rfl rfl
theorem q2_91 : Cond.methodLink RX5 22 yX8_isOut ∈ TT := tq2 91 rfl rfl
theorem q2_92 : Cond.instanceMethod yX8_isOut ∈ TT := tq2 92 rfl rfl
theorem q2_93 : Cond.selects RX8 yX8_isOut yX8_isOut ∈ TT := tq2 93 rfl rfl
theorem q2_94 : Cond.code yX8_isOut cX8_isOut 1 (some .boolean) ∈ TT := tq2 94 rfl rfl
theorem q2_95 : Cond.methodLink RX5 26 yX5_tellItem ∈ TT := tq2 95 rfl rfl
theorem q2_96 : Cond.static yX5_tellItem ∈ TT := tq2 96 rfl rfl
theorem q2_97 : Cond.code yX5_tellItem cX5_tellItem 2 (some .boolean) ∈ TT := tq2 97 rfl rfl
theorem q3_18 : Cond.methodLink RX5 32 yX8_start ∈ TT := tq3 18 rfl rfl
theorem q3_19 : Cond.instanceMethod yX8_start ∈ TT := tq3 19 rfl rfl
theorem q3_20 : Cond.selects RX8 yX8_start yX8_start ∈ TT := tq3 20 rfl rfl
theorem q3_21 : Cond.code yX8_start cX8_start 1 (some .int) ∈ TT := tq3 21 rfl rfl
theorem q3_22 : Cond.methodLink RX5 36 yX8_length ∈ TT := tq3 22 rfl rfl
theorem lk_RX5_36 : vlk RX5 36 yX8_length cX8_length 1 (some .int) 0 := ⟨List.forall_mem_cons.mpr ⟨q3_22, List.forall_mem_cons.mpr ⟨q2_34, List.forall_mem_cons.mpr ⟨q2_35, List.forall_mem_cons.mpr ⟨q1_2, fun _ h => absurd h List.not_mem_nil⟩⟩⟩⟩, q2_36, by decide, by decide, by decide +kernel⟩
theorem lk_RX5_22 : vlk RX5 22 yX8_isOut cX8_isOut 1 (some .boolean) 0 := ⟨List.forall_mem_cons.mpr ⟨q2_91, List.forall_mem_cons.mpr ⟨q2_92, List.forall_mem_cons.mpr ⟨q2_93, List.forall_mem_cons.mpr ⟨q1_2, fun _ h => absurd h List.not_mem_nil⟩⟩⟩⟩, q2_94, by decide, by decide, by decide +kernel⟩
theorem lk_RX5_26 : slk RX5 26 yX5_tellItem cX5_tellItem 2 (some .boolean) 2 := ⟨List.forall_mem_cons.mpr ⟨q2_95, List.forall_mem_cons.mpr ⟨q2_96, List.forall_mem_cons.mpr ⟨q1_13, fun _ h => absurd h List.not_mem_nil⟩⟩⟩, q2_97, by decide, by decide, by decide +kernel⟩
theorem lk_RX5_32 : vlk RX5 32 yX8_start cX8_start 1 (some .int) 0 := ⟨List.forall_mem_cons.mpr ⟨q3_18, List.forall_mem_cons.mpr ⟨q3_19, List.forall_mem_cons.mpr ⟨q3_20, List.forall_mem_cons.mpr ⟨q1_2, fun _ h => absurd h List.not_mem_nil⟩⟩⟩⟩, q3_21, by decide, by decide, by decide +kernel⟩
theorem lk_RX5_9 : vlk RX5 9 yX7_wipe cX7_wipe 1 none 0 := ⟨List.forall_mem_cons.mpr ⟨q2_56, List.forall_mem_cons.mpr ⟨q2_57, List.forall_mem_cons.mpr ⟨q2_58, List.forall_mem_cons.mpr ⟨q1_9, fun _ h => absurd h List.not_mem_nil⟩⟩⟩⟩, q2_59, by decide, by decide, by decide +kernel⟩
theorem lk_RX5_14 : vlk RX5 14 yX8_rewind cX8_rewind 1 none 0 := ⟨List.forall_mem_cons.mpr ⟨q2_75, List.forall_mem_cons.mpr ⟨q2_76, List.forall_mem_cons.mpr ⟨q2_77, List.forall_mem_cons.mpr ⟨q1_2, fun _ h => absurd h List.not_mem_nil⟩⟩⟩⟩, q2_78, by decide, by decide, by decide +kernel⟩
def F_X5_tell_b10 : Nat → Int32 → S8 → S7 → S1 → S4 → S4 → S10 → Option (Int32 × S8 × S7 × S1 × S4 × S4 × S10)
  | 0, _, _, _, _, _, _, _ => none
  | n + 1, v2, zs_a0, zs_a1, zs_a1_forms, zs_a1_paper, zs_a1_stock, zs_a1_words => (if 500 < v2 then (F_X8_length zs_a0).bind fun q_1 => some (((-10) - q_1), zs_a0, zs_a1, zs_a1_forms, zs_a1_paper, zs_a1_stock, zs_a1_words) else (F_X8_advance zs_a0).bind fun q_2 => (F_X8_isOut q_2).bind fun q_3 => (if q_3 = 0 then (F_X5_tellItem q_2 zs_a1 zs_a1_forms zs_a1_paper zs_a1_stock zs_a1_words).bind fun q_4 => (if q_4.1 = 0 then (F_X8_start q_4.2.1).bind fun q_6 => some (((-10) - q_6), q_4.2.1, q_4.2.2.1, q_4.2.2.2.1, q_4.2.2.2.2.1, q_4.2.2.2.2.2.1, q_4.2.2.2.2.2.2) else nm (v2 + 1) fun v2_5 => (F_X5_tell_b10  n) v2_5 q_4.2.1 q_4.2.2.1 q_4.2.2.2.1 q_4.2.2.2.2.1 q_4.2.2.2.2.2.1 q_4.2.2.2.2.2.2) else some (v2, q_2, zs_a1, zs_a1_forms, zs_a1_paper, zs_a1_stock, zs_a1_words)))
def F_X5_tell (s_a0 : S8) (s_a1 : S7) (s_a1_forms : S1) (s_a1_paper : S4) (s_a1_stock : S4) (s_a1_words : S10) : Option (Int32 × S8 × S7 × S1 × S4 × S4 × S10) := (F_X7_wipe s_a1 s_a1_forms s_a1_paper s_a1_stock s_a1_words).bind fun q_7 => (F_X8_rewind s_a0).bind fun q_8 => nm 0 fun v2_9 => F_X5_tell_b10  fu v2_9 q_8 q_7.1 q_7.2.1 q_7.2.2.1 q_7.2.2.2.1 q_7.2.2.2.2
def w_X5_tell (a0 a1 a1_forms a1_paper a1_stock a1_words : Nat → Nat) (cB cI cJ cZ : ClassId) (s_a0 : S8) (s_a1 : S7) (s_a1_forms : S1) (s_a1_paper : S4) (s_a1_stock : S4) (s_a1_words : S10) : va_W := List.flatten [(gX8 a0 cB cI cJ cZ s_a0), (gX7 a1 cB cI cJ cZ (a1_words 0) (a1_forms 0) (a1_paper 0) (a1_stock 0) s_a1), (gX1 a1_forms cB cI cJ cZ s_a1_forms), (gX4 a1_paper cB cI cJ cZ s_a1_paper), (gX4 a1_stock cB cI cJ cZ s_a1_stock), (gX10 a1_words cB cI cJ cZ s_a1_words)]
abbrev rm_X5_tell : Room := { frames := 6, cells := 0, slots := 0, locals := 128 }
set_option maxHeartbeats 4000000 in
set_option maxRecDepth 100000 in
theorem c_X5_tell (l : Launch) (D : gG) (cB cI cJ cZ : ClassId) (a0 a1 a1_forms a1_paper a1_stock a1_words : Nat → Nat) (s_a0 : S8) (s_a1 : S7) (s_a1_forms : S1) (s_a1_paper : S4) (s_a1_stock : S4) (s_a1_words : S10) (r : Int32 × S8 × S7 × S1 × S4 × S4 × S10) (hf : F_X5_tell s_a0 s_a1 s_a1_forms s_a1_paper s_a1_stock s_a1_words = some r) : gM l D (tyL cB cI cJ cZ) yX5_tell cX5_tell 3 (some .int) rm_X5_tell [.ref (a0 0), .ref (a1 0)] (w_X5_tell a0 a1 a1_forms a1_paper a1_stock a1_words cB cI cJ cZ s_a0 s_a1 s_a1_forms s_a1_paper s_a1_stock s_a1_words) (some (.int r.1)) (w_X5_tell a0 a1 a1_forms a1_paper a1_stock a1_words cB cI cJ cZ r.2.1 r.2.2.1 r.2.2.2.1 r.2.2.2.2.1 r.2.2.2.2.2.1 r.2.2.2.2.2.2) := by
  refine met_of (by decide) (Nat.le_of_ble_eq_true rfl) ?_
  intro p e s m args below meth c A cx hr hA
  show gW p l e rm_X5_tell s m args below meth c D A 3 _ 0 0 _ [(0, .ref (a0 0)), (1, .ref (a1 0))] 0 []
  have h10 : ∀ (n : Nat) (v2 : Int32) (zs_a0 : S8) (zs_a1 : S7) (zs_a1_forms : S1) (zs_a1_paper : S4) (zs_a1_stock : S4) (zs_a1_words : S10), F_X5_tell_b10  n v2 zs_a0 zs_a1 zs_a1_forms zs_a1_paper zs_a1_stock zs_a1_words = some r → gW p l e rm_X5_tell s m args below meth c D A 3 (MQ below (QM D (tyL cB cI cJ cZ) (some (.int r.1)) (w_X5_tell a0 a1 a1_forms a1_paper a1_stock a1_words cB cI cJ cZ s_a0 s_a1 s_a1_forms s_a1_paper s_a1_stock s_a1_words) (w_X5_tell a0 a1 a1_forms a1_paper a1_stock a1_words cB cI cJ cZ r.2.1 r.2.2.1 r.2.2.2.1 r.2.2.2.2.1 r.2.2.2.2.2.1 r.2.2.2.2.2.2) s.heap.size) args s 0 0 A) 0 0 (w_X5_tell a0 a1 a1_forms a1_paper a1_stock a1_words cB cI cJ cZ zs_a0 zs_a1 zs_a1_forms zs_a1_paper zs_a1_stock zs_a1_words) [(0, .ref (a0 0)), (1, .ref (a1 0)), (2, .int v2)] 10 [] := by
    intro n
    induction n with
    | zero => intro v2 zs_a0 zs_a1 zs_a1_forms zs_a1_paper zs_a1_stock zs_a1_words hf; rw [F_X5_tell_b10] at hf; cases hf
    | succ n ih =>
      intro v2 zs_a0 zs_a1 zs_a1_forms zs_a1_paper zs_a1_stock zs_a1_words hf
      rw [F_X5_tell_b10] at hf
      refine g_iln cx 2 dX5_tell_10 rfl ?_
      refine g_sp cx dX5_tell_11 k_sp500 ?_
      refine g_ic_gt (tgt := 52) cx hf dX5_tell_14 rfl (fun hf => ?_) (fun hf => ?_)
      · refine g_bp cx dX5_tell_52 k_bpm10 ?_
        refine g_aln cx 0 dX5_tell_54 rfl ?_
        refine ob hf (fun q_1 hq_1 hf => ?_)
        refine g_callVGiR cx lk_RX5_36 (c_X8_length l D cB cI cJ cZ a0 zs_a0 q_1 hq_1) rfl [0] rfl rfl (ci := 6) (q1 := 0) rfl rfl rfl (Nat.le_of_ble_eq_true rfl) ⟨rfl, rfl, Nat.le_of_ble_eq_true rfl, Nat.le_of_ble_eq_true rfl⟩ dX5_tell_55 ?_
        refine g_isub cx dX5_tell_58 ?_
        exact g_iret (ovf := fun (r : Int32 × S8 × S7 × S1 × S4 × S4 × S10) => (some (.int r.1))) (wf := fun (r : Int32 × S8 × S7 × S1 × S4 × S4 × S10) => (w_X5_tell a0 a1 a1_forms a1_paper a1_stock a1_words cB cI cJ cZ r.2.1 r.2.2.1 r.2.2.2.1 r.2.2.2.2.1 r.2.2.2.2.2.1 r.2.2.2.2.2.2)) cx hA hr hf rfl rfl dX5_tell_59
      · refine g_aln cx 0 dX5_tell_17 rfl ?_
        refine ob hf (fun q_2 hq_2 hf => ?_)
        refine g_callVGv (gs' := [(gX8 a0 cB cI cJ cZ q_2), (gX7 a1 cB cI cJ cZ (a1_words 0) (a1_forms 0) (a1_paper 0) (a1_stock 0) zs_a1), (gX1 a1_forms cB cI cJ cZ zs_a1_forms), (gX4 a1_paper cB cI cJ cZ zs_a1_paper), (gX4 a1_stock cB cI cJ cZ zs_a1_stock), (gX10 a1_words cB cI cJ cZ zs_a1_words)]) cx lk_RX5_19 (c_X8_advance l D cB cI cJ cZ a0 zs_a0 q_2 hq_2) rfl [0] rfl rfl rfl rfl (ci := 6) (q1 := 0) rfl rfl rfl (Nat.le_of_ble_eq_true rfl) ⟨rfl, rfl, Nat.le_of_ble_eq_true rfl, Nat.le_of_ble_eq_true rfl⟩ dX5_tell_18 ?_
        refine g_aln cx 0 dX5_tell_21 rfl ?_
        refine ob hf (fun q_3 hq_3 hf => ?_)
        refine g_callVGiR cx lk_RX5_22 (c_X8_isOut l D cB cI cJ cZ a0 q_2 q_3 hq_3) rfl [0] rfl rfl (ci := 6) (q1 := 0) rfl rfl rfl (Nat.le_of_ble_eq_true rfl) ⟨rfl, rfl, Nat.le_of_ble_eq_true rfl, Nat.le_of_ble_eq_true rfl⟩ dX5_tell_22 ?_
        refine g_if_eq (tgt := 30) cx hf dX5_tell_25 rfl (fun hf => ?_) (fun hf => ?_)
        · refine g_aln cx 0 dX5_tell_30 rfl ?_
          refine g_aln cx 1 dX5_tell_31 rfl ?_
          refine ob hf (fun q_4 hq_4 hf => ?_)
          refine g_callSGi (gs' := [(gX8 a0 cB cI cJ cZ q_4.2.1), (gX7 a1 cB cI cJ cZ (a1_words 0) (a1_forms 0) (a1_paper 0) (a1_stock 0) q_4.2.2.1), (gX1 a1_forms cB cI cJ cZ q_4.2.2.2.1), (gX4 a1_paper cB cI cJ cZ q_4.2.2.2.2.1), (gX4 a1_stock cB cI cJ cZ q_4.2.2.2.2.2.1), (gX10 a1_words cB cI cJ cZ q_4.2.2.2.2.2.2)]) cx lk_RX5_26 (c_X5_tellItem l D cB cI cJ cZ a0 a1 a1_forms a1_paper a1_stock a1_words q_2 zs_a1 zs_a1_forms zs_a1_paper zs_a1_stock zs_a1_words q_4 hq_4) rfl [0, 1, 2, 3, 4, 5] rfl rfl rfl rfl rfl (Nat.le_of_ble_eq_true rfl) ⟨rfl, rfl, Nat.le_of_ble_eq_true rfl, Nat.le_of_ble_eq_true rfl⟩ dX5_tell_32 ?_
          refine g_if_ne (tgt := 46) cx hf dX5_tell_35 rfl (fun hf => ?_) (fun hf => ?_)
          · refine g_inc cx (L2 := fun v2_5 => [(2, .int v2_5), (0, .ref (a0 0)), (1, .ref (a1 0))]) 2 hf dX5_tell_46 rfl (k_inc1 _) (Nat.le_of_ble_eq_true rfl) (fun _ => rfl) (fun v2_5 hf => ?_)
            refine g_goto (tgt := 10) cx dX5_tell_49 rfl ?_
            refine g_sub [1, 2, 0] rfl ?_
            exact ih _ _ _ _ _ _ _ hf
          · refine g_bp cx dX5_tell_38 k_bpm10 ?_
            refine g_aln cx 0 dX5_tell_40 rfl ?_
            refine ob hf (fun q_6 hq_6 hf => ?_)
            refine g_callVGiR cx lk_RX5_32 (c_X8_start l D cB cI cJ cZ a0 q_4.2.1 q_6 hq_6) rfl [0] rfl rfl (ci := 6) (q1 := 0) rfl rfl rfl (Nat.le_of_ble_eq_true rfl) ⟨rfl, rfl, Nat.le_of_ble_eq_true rfl, Nat.le_of_ble_eq_true rfl⟩ dX5_tell_41 ?_
            refine g_isub cx dX5_tell_44 ?_
            exact g_iret (ovf := fun (r : Int32 × S8 × S7 × S1 × S4 × S4 × S10) => (some (.int r.1))) (wf := fun (r : Int32 × S8 × S7 × S1 × S4 × S4 × S10) => (w_X5_tell a0 a1 a1_forms a1_paper a1_stock a1_words cB cI cJ cZ r.2.1 r.2.2.1 r.2.2.2.1 r.2.2.2.2.1 r.2.2.2.2.2.1 r.2.2.2.2.2.2)) cx hA hr hf rfl rfl dX5_tell_45
        · refine g_iln cx 2 dX5_tell_28 rfl ?_
          exact g_iret (ovf := fun (r : Int32 × S8 × S7 × S1 × S4 × S4 × S10) => (some (.int r.1))) (wf := fun (r : Int32 × S8 × S7 × S1 × S4 × S4 × S10) => (w_X5_tell a0 a1 a1_forms a1_paper a1_stock a1_words cB cI cJ cZ r.2.1 r.2.2.1 r.2.2.2.1 r.2.2.2.2.1 r.2.2.2.2.2.1 r.2.2.2.2.2.2)) cx hA hr hf rfl rfl dX5_tell_29
  rw [F_X5_tell] at hf
  refine g_aln cx 1 dX5_tell_0 rfl ?_
  refine ob hf (fun q_7 hq_7 hf => ?_)
  refine g_callVGv (gs' := [(gX8 a0 cB cI cJ cZ s_a0), (gX7 a1 cB cI cJ cZ (a1_words 0) (a1_forms 0) (a1_paper 0) (a1_stock 0) q_7.1), (gX1 a1_forms cB cI cJ cZ q_7.2.1), (gX4 a1_paper cB cI cJ cZ q_7.2.2.1), (gX4 a1_stock cB cI cJ cZ q_7.2.2.2.1), (gX10 a1_words cB cI cJ cZ q_7.2.2.2.2)]) cx lk_RX5_9 (c_X7_wipe l D cB cI cJ cZ a1 a1_forms a1_paper a1_stock a1_words s_a1 s_a1_forms s_a1_paper s_a1_stock s_a1_words q_7 hq_7) rfl [1, 2, 3, 4, 5] rfl rfl rfl rfl (ci := 5) (q1 := 0) rfl rfl rfl (Nat.le_of_ble_eq_true rfl) ⟨rfl, rfl, Nat.le_of_ble_eq_true rfl, Nat.le_of_ble_eq_true rfl⟩ dX5_tell_1 ?_
  refine g_aln cx 0 dX5_tell_4 rfl ?_
  refine ob hf (fun q_8 hq_8 hf => ?_)
  refine g_callVGv (gs' := [(gX8 a0 cB cI cJ cZ q_8), (gX7 a1 cB cI cJ cZ (a1_words 0) (a1_forms 0) (a1_paper 0) (a1_stock 0) q_7.1), (gX1 a1_forms cB cI cJ cZ q_7.2.1), (gX4 a1_paper cB cI cJ cZ q_7.2.2.1), (gX4 a1_stock cB cI cJ cZ q_7.2.2.2.1), (gX10 a1_words cB cI cJ cZ q_7.2.2.2.2)]) cx lk_RX5_14 (c_X8_rewind l D cB cI cJ cZ a0 s_a0 q_8 hq_8) rfl [0] rfl rfl rfl rfl (ci := 6) (q1 := 0) rfl rfl rfl (Nat.le_of_ble_eq_true rfl) ⟨rfl, rfl, Nat.le_of_ble_eq_true rfl, Nat.le_of_ble_eq_true rfl⟩ dX5_tell_5 ?_
  refine g_ic cx dX5_tell_8 k_ic0 ?_
  refine g_isn cx (L2 := fun v2_9 => [(2, .int v2_9), (0, .ref (a0 0)), (1, .ref (a1 0))]) hf dX5_tell_9 (Nat.le_of_ble_eq_true rfl) (fun _ => rfl) (fun v2_9 hf => ?_)
  refine g_sub [1, 2, 0] rfl ?_
  exact h10 fu _ _ _ _ _ _ _ hf
