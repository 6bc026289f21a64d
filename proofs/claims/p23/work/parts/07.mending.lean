theorem dX3_mayBecome_0 : decode cX3_mayBecome 0 = .ok (.aload_n 0, 1) := by decide +kernel
theorem dX3_mayBecome_1 : decode cX3_mayBecome 1 = .ok (.getfield 48, 3) := by decide +kernel
theorem dX3_mayBecome_4 : decode cX3_mayBecome 4 = .ok (.iload_n 3, 1) := by decide +kernel
theorem dX3_mayBecome_5 : decode cX3_mayBecome 5 = .ok (.invokevirtual 90, 3) := by decide +kernel
theorem dX3_mayBecome_8 : decode cX3_mayBecome 8 = .ok (.aload_n 0, 1) := by decide +kernel
theorem dX3_mayBecome_9 : decode cX3_mayBecome 9 = .ok (.getfield 48, 3) := by decide +kernel
theorem dX3_mayBecome_12 : decode cX3_mayBecome 12 = .ok (.aload_n 0, 1) := by decide +kernel
theorem dX3_mayBecome_13 : decode cX3_mayBecome 13 = .ok (.getfield 18, 3) := by decide +kernel
theorem dX3_mayBecome_16 : decode cX3_mayBecome 16 = .ok (.iload_n 2, 1) := by decide +kernel
theorem dX3_mayBecome_17 : decode cX3_mayBecome 17 = .ok (.invokevirtual 66, 3) := by decide +kernel
theorem dX3_mayBecome_20 : decode cX3_mayBecome 20 = .ok (.invokevirtual 90, 3) := by decide +kernel
theorem dX3_mayBecome_23 : decode cX3_mayBecome 23 = .ok (.if_icmp .ne 32, 3) := by decide +kernel
theorem dX3_mayBecome_26 : decode cX3_mayBecome 26 = .ok (.aload_n 0, 1) := by decide +kernel
theorem dX3_mayBecome_27 : decode cX3_mayBecome 27 = .ok (.aload_n 0, 1) := by decide +kernel
theorem dX3_mayBecome_28 : decode cX3_mayBecome 28 = .ok (.getfield 30, 3) := by decide +kernel
theorem dX3_mayBecome_31 : decode cX3_mayBecome 31 = .ok (.iload_n 1, 1) := by decide +kernel
theorem dX3_mayBecome_32 : decode cX3_mayBecome 32 = .ok (.iload_n 2, 1) := by decide +kernel
theorem dX3_mayBecome_33 : decode cX3_mayBecome 33 = .ok (.invokevirtual 93, 3) := by decide +kernel
theorem dX3_mayBecome_36 : decode cX3_mayBecome 36 = .ok (.iload_n 3, 1) := by decide +kernel
theorem dX3_mayBecome_37 : decode cX3_mayBecome 37 = .ok (.aload_n 0, 1) := by decide +kernel
theorem dX3_mayBecome_38 : decode cX3_mayBecome 38 = .ok (.getfield 18, 3) := by decide +kernel
theorem dX3_mayBecome_41 : decode cX3_mayBecome 41 = .ok (.iload_n 2, 1) := by decide +kernel
theorem dX3_mayBecome_42 : decode cX3_mayBecome 42 = .ok (.invokevirtual 96, 3) := by decide +kernel
theorem dX3_mayBecome_45 : decode cX3_mayBecome 45 = .ok (.invokevirtual 99, 3) := by decide +kernel
theorem dX3_mayBecome_48 : decode cX3_mayBecome 48 = .ok (.ifCond .eq 7, 3) := by decide +kernel
theorem dX3_mayBecome_51 : decode cX3_mayBecome 51 = .ok (.iconst 1, 1) := by decide +kernel
theorem dX3_mayBecome_52 : decode cX3_mayBecome 52 = .ok (.goto 4, 3) := by decide +kernel
theorem dX3_mayBecome_55 : decode cX3_mayBecome 55 = .ok (.iconst 0, 1) := by decide +kernel
theorem dX3_mayBecome_56 : decode cX3_mayBecome 56 = .ok (.ireturn, 1) := by decide +kernel
theorem q1_198 : Cond.fieldLink RX3 48 "RhymeLaw$Tale" "words" "LRhymeLaw$Words;" ∈ TT := tq1 198 rfl rfl
theorem q1_205 : Cond.fieldLink RX3 30 "RhymeLaw$Tale" "forms" "LRhymeLaw$Forms;" ∈ TT := tq1 205 rfl rfl
theorem q1_212 : Cond.fieldLink RX3 18 "RhymeLaw$Tale" "paper" "LRhymeLaw$Paper;" ∈ TT := tq1 212 rfl rfl
theorem q3_37 : Cond.instanceMethod yX10_meaning ∈ TT := tq3 37 rfl rfl
theorem q3_38 : Cond.selects RX10 yX10_meaning yX10_meaning ∈ TT := tq3 38 rfl rfl
theorem q3_39 : Cond.code yX10_meaning cX10_meaning 2 (some .int) ∈ TT := tq3 39 rfl rfl
theorem q4_11 : Cond.methodLink RX3 90 yX10_meaning ∈ TT := tq4 11 rfl rfl
theorem q4_12 : Cond.methodLink RX3 66 yX4_wordAt ∈ TT := tq4 12 rfl rfl
theorem q4_13 : Cond.methodLink RX3 93 yX1_letter ∈ TT := tq4 13 rfl rfl
theorem q4_14 : Cond.methodLink RX3 96 yX4_beforeAt ∈ TT := tq4 14 rfl rfl
theorem q4_15 : Cond.methodLink RX3 99 yX7_fits ∈ TT := tq4 15 rfl rfl
theorem fg_RX3_48 {p : Program} {l : Launch} {e : Env} {R : Room} {s : State} {m : MethodId} {args : Array Value} {below : List Frame} {meth : Method} {c : Code} {D : gG} {tys : List (ClassId × FieldType)} {A : Nat → Prop} {nL : Nat} {Q : State → Prop} {cells slots : Nat} {cc : ByteArray} {ws : va_W} {L : List (Nat × Value)} {pc : Nat} {stk : List Value} (cx : gX p s m args meth c cc nL RX3 D tys A) {a : Nat} {fs : List Value} {v : Value} (q0 : Nat) (he : ws[q0]? = some (a, .inr (5, fs))) (hv : fs[0]? = some v) (hd : decode cc pc = .ok (.getfield 48, 3)) (kk : gW p l e R s m args below meth c D A nL Q cells slots ws L (pc + 3) (v :: stk)) : gW p l e R s m args below meth c D A nL Q cells slots ws L pc (.ref a :: stk) :=
  g_get cx (C := RX7) (T := TX7) (N := 5) inT7 rfl 0 (Nat.le_of_ble_eq_true rfl) q1_198 rfl q0 he hv hd kk
theorem lk_RX3_90 : vlk RX3 90 yX10_meaning cX10_meaning 2 (some .int) 1 := ⟨List.forall_mem_cons.mpr ⟨q4_11, List.forall_mem_cons.mpr ⟨q3_37, List.forall_mem_cons.mpr ⟨q3_38, List.forall_mem_cons.mpr ⟨q1_10, fun _ h => absurd h List.not_mem_nil⟩⟩⟩⟩, q3_39, by decide, by decide, by decide +kernel⟩
theorem fg_RX3_18 {p : Program} {l : Launch} {e : Env} {R : Room} {s : State} {m : MethodId} {args : Array Value} {below : List Frame} {meth : Method} {c : Code} {D : gG} {tys : List (ClassId × FieldType)} {A : Nat → Prop} {nL : Nat} {Q : State → Prop} {cells slots : Nat} {cc : ByteArray} {ws : va_W} {L : List (Nat × Value)} {pc : Nat} {stk : List Value} (cx : gX p s m args meth c cc nL RX3 D tys A) {a : Nat} {fs : List Value} {v : Value} (q0 : Nat) (he : ws[q0]? = some (a, .inr (5, fs))) (hv : fs[2]? = some v) (hd : decode cc pc = .ok (.getfield 18, 3)) (kk : gW p l e R s m args below meth c D A nL Q cells slots ws L (pc + 3) (v :: stk)) : gW p l e R s m args below meth c D A nL Q cells slots ws L pc (.ref a :: stk) :=
  g_get cx (C := RX7) (T := TX7) (N := 5) inT7 rfl 2 (Nat.le_of_ble_eq_true rfl) q1_212 rfl q0 he hv hd kk
theorem lk_RX3_66 : vlk RX3 66 yX4_wordAt cX4_wordAt 2 (some .int) 1 := ⟨List.forall_mem_cons.mpr ⟨q4_12, List.forall_mem_cons.mpr ⟨q3_0, List.forall_mem_cons.mpr ⟨q3_1, List.forall_mem_cons.mpr ⟨q1_4, fun _ h => absurd h List.not_mem_nil⟩⟩⟩⟩, q3_2, by decide, by decide, by decide +kernel⟩
theorem fg_RX3_30 {p : Program} {l : Launch} {e : Env} {R : Room} {s : State} {m : MethodId} {args : Array Value} {below : List Frame} {meth : Method} {c : Code} {D : gG} {tys : List (ClassId × FieldType)} {A : Nat → Prop} {nL : Nat} {Q : State → Prop} {cells slots : Nat} {cc : ByteArray} {ws : va_W} {L : List (Nat × Value)} {pc : Nat} {stk : List Value} (cx : gX p s m args meth c cc nL RX3 D tys A) {a : Nat} {fs : List Value} {v : Value} (q0 : Nat) (he : ws[q0]? = some (a, .inr (5, fs))) (hv : fs[1]? = some v) (hd : decode cc pc = .ok (.getfield 30, 3)) (kk : gW p l e R s m args below meth c D A nL Q cells slots ws L (pc + 3) (v :: stk)) : gW p l e R s m args below meth c D A nL Q cells slots ws L pc (.ref a :: stk) :=
  g_get cx (C := RX7) (T := TX7) (N := 5) inT7 rfl 1 (Nat.le_of_ble_eq_true rfl) q1_205 rfl q0 he hv hd kk
theorem lk_RX3_93 : vlk RX3 93 yX1_letter cX1_letter 4 (some .int) 2 := ⟨List.forall_mem_cons.mpr ⟨q4_13, List.forall_mem_cons.mpr ⟨q3_53, List.forall_mem_cons.mpr ⟨q3_54, List.forall_mem_cons.mpr ⟨q1_11, fun _ h => absurd h List.not_mem_nil⟩⟩⟩⟩, q3_55, by decide, by decide, by decide +kernel⟩
theorem lk_RX3_96 : vlk RX3 96 yX4_beforeAt cX4_beforeAt 2 (some .int) 1 := ⟨List.forall_mem_cons.mpr ⟨q4_14, List.forall_mem_cons.mpr ⟨q3_9, List.forall_mem_cons.mpr ⟨q3_10, List.forall_mem_cons.mpr ⟨q1_4, fun _ h => absurd h List.not_mem_nil⟩⟩⟩⟩, q3_11, by decide, by decide, by decide +kernel⟩
theorem lk_RX3_99 : vlk RX3 99 yX7_fits cX7_fits 5 (some .boolean) 3 := ⟨List.forall_mem_cons.mpr ⟨q4_15, List.forall_mem_cons.mpr ⟨q3_130, List.forall_mem_cons.mpr ⟨q3_131, List.forall_mem_cons.mpr ⟨q1_9, fun _ h => absurd h List.not_mem_nil⟩⟩⟩⟩, q3_132, by decide, by decide, by decide +kernel⟩
def F_X3_mayBecome (s_a0 : S7) (s_a0_forms : S1) (s_a0_paper : S4) (s_a0_words : S10) (x1 : Int32) (x2 : Int32) (x3 : Int32) : Option (Int32) := (F_X10_meaning s_a0_words x3).bind fun q_1 => (F_X4_wordAt s_a0_paper x2).bind fun q_2 => (F_X10_meaning s_a0_words q_2).bind fun q_3 => (if q_1 = q_3 then (F_X1_letter s_a0_forms x1 x2).bind fun q_4 => (F_X4_beforeAt s_a0_paper x2).bind fun q_5 => (F_X7_fits s_a0 s_a0_words q_4 x3 q_5).bind fun q_6 => (if q_6 = 0 then some (0) else some (1)) else some (0))
def w_X3_mayBecome (a0 a0_forms a0_paper a0_words a0_stock : Nat → Nat) (cB cI cJ cZ : ClassId) (s_a0 : S7) (s_a0_forms : S1) (s_a0_paper : S4) (s_a0_words : S10) : va_W := List.flatten [(gX7 a0 cB cI cJ cZ (a0_words 0) (a0_forms 0) (a0_paper 0) (a0_stock 0) s_a0), (gX1 a0_forms cB cI cJ cZ s_a0_forms), (gX4 a0_paper cB cI cJ cZ s_a0_paper), (gX10 a0_words cB cI cJ cZ s_a0_words)]
abbrev rm_X3_mayBecome : Room := { frames := 3, cells := 0, slots := 0, locals := 66 }
set_option maxHeartbeats 4000000 in
set_option maxRecDepth 100000 in
theorem c_X3_mayBecome (l : Launch) (D : gG) (cB cI cJ cZ : ClassId) (a0 a0_forms a0_paper a0_words a0_stock : Nat → Nat) (s_a0 : S7) (s_a0_forms : S1) (s_a0_paper : S4) (s_a0_words : S10) (x1 : Int32) (x2 : Int32) (x3 : Int32) (r : Int32) (hf : F_X3_mayBecome s_a0 s_a0_forms s_a0_paper s_a0_words x1 x2 x3 = some r) : gM l D (tyL cB cI cJ cZ) yX3_mayBecome cX3_mayBecome 4 (some .boolean) rm_X3_mayBecome [.ref (a0 0), .int x1, .int x2, .int x3] (w_X3_mayBecome a0 a0_forms a0_paper a0_words a0_stock cB cI cJ cZ s_a0 s_a0_forms s_a0_paper s_a0_words) (some (.int r)) (w_X3_mayBecome a0 a0_forms a0_paper a0_words a0_stock cB cI cJ cZ s_a0 s_a0_forms s_a0_paper s_a0_words) := by
  refine met_of (by decide) (Nat.le_of_ble_eq_true rfl) ?_
  intro p e s m args below meth c A cx hr hA
  show gW p l e rm_X3_mayBecome s m args below meth c D A 4 _ 0 0 _ [(0, .ref (a0 0)), (1, .int x1), (2, .int x2), (3, .int x3)] 0 []
  rw [F_X3_mayBecome] at hf
  refine g_aln cx 0 dX3_mayBecome_0 rfl ?_
  refine fg_RX3_48 cx 0 rfl rfl dX3_mayBecome_1 ?_
  refine g_iln cx 3 dX3_mayBecome_4 rfl ?_
  refine ob hf (fun q_1 hq_1 hf => ?_)
  refine g_callVGiR cx lk_RX3_90 (c_X10_meaning l D cB cI cJ cZ a0_words s_a0_words x3 q_1 hq_1) rfl [3] rfl rfl (ci := 8) (q1 := 0) rfl rfl rfl (Nat.le_of_ble_eq_true rfl) ⟨rfl, rfl, Nat.le_of_ble_eq_true rfl, Nat.le_of_ble_eq_true rfl⟩ dX3_mayBecome_5 ?_
  refine g_aln cx 0 dX3_mayBecome_8 rfl ?_
  refine fg_RX3_48 cx 0 rfl rfl dX3_mayBecome_9 ?_
  refine g_aln cx 0 dX3_mayBecome_12 rfl ?_
  refine fg_RX3_18 cx 0 rfl rfl dX3_mayBecome_13 ?_
  refine g_iln cx 2 dX3_mayBecome_16 rfl ?_
  refine ob hf (fun q_2 hq_2 hf => ?_)
  refine g_callVGiR cx lk_RX3_66 (c_X4_wordAt l D cB cI cJ cZ a0_paper s_a0_paper x2 q_2 hq_2) rfl [2] rfl rfl (ci := 4) (q1 := 0) rfl rfl rfl (Nat.le_of_ble_eq_true rfl) ⟨rfl, rfl, Nat.le_of_ble_eq_true rfl, Nat.le_of_ble_eq_true rfl⟩ dX3_mayBecome_17 ?_
  refine ob hf (fun q_3 hq_3 hf => ?_)
  refine g_callVGiR cx lk_RX3_90 (c_X10_meaning l D cB cI cJ cZ a0_words s_a0_words q_2 q_3 hq_3) rfl [3] rfl rfl (ci := 8) (q1 := 0) rfl rfl rfl (Nat.le_of_ble_eq_true rfl) ⟨rfl, rfl, Nat.le_of_ble_eq_true rfl, Nat.le_of_ble_eq_true rfl⟩ dX3_mayBecome_20 ?_
  refine g_ic_ne (tgt := 55) cx hf dX3_mayBecome_23 rfl (fun hf => ?_) (fun hf => ?_)
  · refine g_ic cx dX3_mayBecome_55 k_ic0 ?_
    exact g_zret (ovf := fun (r : Int32) => (some (.int r))) (wf := fun (r : Int32) => (w_X3_mayBecome a0 a0_forms a0_paper a0_words a0_stock cB cI cJ cZ s_a0 s_a0_forms s_a0_paper s_a0_words)) cx hA hr rfl hf rfl rfl dX3_mayBecome_56
  · refine g_aln cx 0 dX3_mayBecome_26 rfl ?_
    refine g_aln cx 0 dX3_mayBecome_27 rfl ?_
    refine fg_RX3_30 cx 0 rfl rfl dX3_mayBecome_28 ?_
    refine g_iln cx 1 dX3_mayBecome_31 rfl ?_
    refine g_iln cx 2 dX3_mayBecome_32 rfl ?_
    refine ob hf (fun q_4 hq_4 hf => ?_)
    refine g_callVGiR cx lk_RX3_93 (c_X1_letter l D cB cI cJ cZ a0_forms s_a0_forms x1 x2 q_4 hq_4) rfl [1] rfl rfl (ci := 1) (q1 := 0) rfl rfl rfl (Nat.le_of_ble_eq_true rfl) ⟨rfl, rfl, Nat.le_of_ble_eq_true rfl, Nat.le_of_ble_eq_true rfl⟩ dX3_mayBecome_33 ?_
    refine g_iln cx 3 dX3_mayBecome_36 rfl ?_
    refine g_aln cx 0 dX3_mayBecome_37 rfl ?_
    refine fg_RX3_18 cx 0 rfl rfl dX3_mayBecome_38 ?_
    refine g_iln cx 2 dX3_mayBecome_41 rfl ?_
    refine ob hf (fun q_5 hq_5 hf => ?_)
    refine g_callVGiR cx lk_RX3_96 (c_X4_beforeAt l D cB cI cJ cZ a0_paper s_a0_paper x2 q_5 hq_5) rfl [2] rfl rfl (ci := 4) (q1 := 0) rfl rfl rfl (Nat.le_of_ble_eq_true rfl) ⟨rfl, rfl, Nat.le_of_ble_eq_true rfl, Nat.le_of_ble_eq_true rfl⟩ dX3_mayBecome_42 ?_
    refine ob hf (fun q_6 hq_6 hf => ?_)
    refine g_callVGiR cx lk_RX3_99 (c_X7_fits l D cB cI cJ cZ a0 a0_words a0_forms a0_paper a0_stock s_a0 s_a0_words q_4 x3 q_5 q_6 hq_6) rfl [0, 3] rfl rfl (ci := 5) (q1 := 0) rfl rfl rfl (Nat.le_of_ble_eq_true rfl) ⟨rfl, rfl, Nat.le_of_ble_eq_true rfl, Nat.le_of_ble_eq_true rfl⟩ dX3_mayBecome_45 ?_
    refine g_if_eq (tgt := 55) cx hf dX3_mayBecome_48 rfl (fun hf => ?_) (fun hf => ?_)
    · refine g_ic cx dX3_mayBecome_55 k_ic0 ?_
      exact g_zret (ovf := fun (r : Int32) => (some (.int r))) (wf := fun (r : Int32) => (w_X3_mayBecome a0 a0_forms a0_paper a0_words a0_stock cB cI cJ cZ s_a0 s_a0_forms s_a0_paper s_a0_words)) cx hA hr rfl hf rfl rfl dX3_mayBecome_56
    · refine g_ic cx dX3_mayBecome_51 k_ic1 ?_
      refine g_goto (tgt := 56) cx dX3_mayBecome_52 rfl ?_
      exact g_zret (ovf := fun (r : Int32) => (some (.int r))) (wf := fun (r : Int32) => (w_X3_mayBecome a0 a0_forms a0_paper a0_words a0_stock cB cI cJ cZ s_a0 s_a0_forms s_a0_paper s_a0_words)) cx hA hr rfl hf rfl rfl dX3_mayBecome_56
theorem dX3_costAt_0 : decode cX3_costAt 0 = .ok (.aload_n 0, 1) := by decide +kernel
theorem dX3_costAt_1 : decode cX3_costAt 1 = .ok (.getfield 9, 3) := by decide +kernel
theorem dX3_costAt_4 : decode cX3_costAt 4 = .ok (.iload_n 1, 1) := by decide +kernel
theorem dX3_costAt_5 : decode cX3_costAt 5 = .ok (.bipush 16, 2) := by decide +kernel
theorem dX3_costAt_7 : decode cX3_costAt 7 = .ok (.imul, 1) := by decide +kernel
theorem dX3_costAt_8 : decode cX3_costAt 8 = .ok (.iload_n 2, 1) := by decide +kernel
theorem dX3_costAt_9 : decode cX3_costAt 9 = .ok (.iadd, 1) := by decide +kernel
theorem dX3_costAt_10 : decode cX3_costAt 10 = .ok (.invokestatic 67, 3) := by decide +kernel
theorem dX3_costAt_13 : decode cX3_costAt 13 = .ok (.ireturn, 1) := by decide +kernel
theorem q1_106 : Cond.fieldLink RX3 9 "RhymeLaw$Mending" "costs" "[I" ∈ TT := tq1 106 rfl rfl
theorem q4_24 : Cond.methodLink RX3 67 yX6_at ∈ TT := tq4 24 rfl rfl
theorem fg_RX3_9 {p : Program} {l : Launch} {e : Env} {R : Room} {s : State} {m : MethodId} {args : Array Value} {below : List Frame} {meth : Method} {c : Code} {D : gG} {tys : List (ClassId × FieldType)} {A : Nat → Prop} {nL : Nat} {Q : State → Prop} {cells slots : Nat} {cc : ByteArray} {ws : va_W} {L : List (Nat × Value)} {pc : Nat} {stk : List Value} (cx : gX p s m args meth c cc nL RX3 D tys A) {a : Nat} {fs : List Value} {v : Value} (q0 : Nat) (he : ws[q0]? = some (a, .inr (3, fs))) (hv : fs[0]? = some v) (hd : decode cc pc = .ok (.getfield 9, 3)) (kk : gW p l e R s m args below meth c D A nL Q cells slots ws L (pc + 3) (v :: stk)) : gW p l e R s m args below meth c D A nL Q cells slots ws L pc (.ref a :: stk) :=
  g_get cx (C := RX3) (T := TX3) (N := 2) inT3 rfl 0 (Nat.le_of_ble_eq_true rfl) q1_106 rfl q0 he hv hd kk
theorem lk_RX3_67 : slk RX3 67 yX6_at cX6_at 2 (some .int) 2 := ⟨List.forall_mem_cons.mpr ⟨q4_24, List.forall_mem_cons.mpr ⟨q2_207, List.forall_mem_cons.mpr ⟨q1_19, fun _ h => absurd h List.not_mem_nil⟩⟩⟩, q2_208, by decide, by decide, by decide +kernel⟩
def F_X3_costAt (s_o : S3) (x1 : Int32) (x2 : Int32) : Option (Int32) := (F_X6_at 128 (s3_costs s_o) ((x1 * 16) + x2)).bind fun q_1 => some (q_1)
def w_X3_costAt (o : Nat → Nat) (cB cI cJ cZ : ClassId) (s_o : S3) : va_W := List.flatten [(gX3 o cB cI cJ cZ s_o)]
abbrev rm_X3_costAt : Room := { frames := 1, cells := 0, slots := 0, locals := 21 }
set_option maxHeartbeats 4000000 in
set_option maxRecDepth 100000 in
theorem c_X3_costAt (l : Launch) (D : gG) (cB cI cJ cZ : ClassId) (o : Nat → Nat) (s_o : S3) (x1 : Int32) (x2 : Int32) (r : Int32) (hf : F_X3_costAt s_o x1 x2 = some r) : gM l D (tyL cB cI cJ cZ) yX3_costAt cX3_costAt 3 (some .int) rm_X3_costAt [.ref (o 0), .int x1, .int x2] (w_X3_costAt o cB cI cJ cZ s_o) (some (.int r)) (w_X3_costAt o cB cI cJ cZ s_o) := by
  refine met_of (by decide) (Nat.le_of_ble_eq_true rfl) ?_
  intro p e s m args below meth c A cx hr hA
  show gW p l e rm_X3_costAt s m args below meth c D A 3 _ 0 0 _ [(0, .ref (o 0)), (1, .int x1), (2, .int x2)] 0 []
  rw [F_X3_costAt] at hf
  refine g_aln cx 0 dX3_costAt_0 rfl ?_
  refine fg_RX3_9 cx 0 rfl rfl dX3_costAt_1 ?_
  refine g_iln cx 1 dX3_costAt_4 rfl ?_
  refine g_bp cx dX3_costAt_5 k_bp16 ?_
  refine g_imul cx dX3_costAt_7 ?_
  refine g_iln cx 2 dX3_costAt_8 rfl ?_
  refine g_iadd cx dX3_costAt_9 ?_
  refine ob hf (fun q_1 hq_1 hf => ?_)
  refine g_callSiR cx lk_RX3_67 (c_X6_at l D cB cI cJ cZ (o 1) 128 (s3_costs s_o) ((x1 * 16) + x2) q_1 hq_1) rfl [1] rfl rfl rfl (Nat.le_of_ble_eq_true rfl) ⟨rfl, rfl, Nat.le_of_ble_eq_true rfl, Nat.le_of_ble_eq_true rfl⟩ dX3_costAt_10 ?_
  exact g_iret (ovf := fun (r : Int32) => (some (.int r))) (wf := fun (r : Int32) => (w_X3_costAt o cB cI cJ cZ s_o)) cx hA hr hf rfl rfl dX3_costAt_13
theorem dX3_best_0 : decode cX3_best 0 = .ok (.iconst (-1), 1) := by decide +kernel
theorem dX3_best_1 : decode cX3_best 1 = .ok (.istore 5, 2) := by decide +kernel
theorem dX3_best_3 : decode cX3_best 3 = .ok (.sipush 1000, 3) := by decide +kernel
theorem dX3_best_6 : decode cX3_best 6 = .ok (.istore 6, 2) := by decide +kernel
theorem dX3_best_8 : decode cX3_best 8 = .ok (.iconst 0, 1) := by decide +kernel
theorem dX3_best_9 : decode cX3_best 9 = .ok (.istore 7, 2) := by decide +kernel
theorem dX3_best_11 : decode cX3_best 11 = .ok (.iload 7, 2) := by decide +kernel
theorem dX3_best_13 : decode cX3_best 13 = .ok (.aload_n 1, 1) := by decide +kernel
theorem dX3_best_14 : decode cX3_best 14 = .ok (.invokevirtual 75, 3) := by decide +kernel
theorem dX3_best_17 : decode cX3_best 17 = .ok (.if_icmp .ge 51, 3) := by decide +kernel
theorem dX3_best_20 : decode cX3_best 20 = .ok (.aload_n 0, 1) := by decide +kernel
theorem dX3_best_21 : decode cX3_best 21 = .ok (.iload_n 3, 1) := by decide +kernel
theorem dX3_best_22 : decode cX3_best 22 = .ok (.iload 7, 2) := by decide +kernel
theorem dX3_best_24 : decode cX3_best 24 = .ok (.invokevirtual 82, 3) := by decide +kernel
theorem dX3_best_27 : decode cX3_best 27 = .ok (.iload 6, 2) := by decide +kernel
theorem dX3_best_29 : decode cX3_best 29 = .ok (.if_icmp .ge 33, 3) := by decide +kernel
theorem dX3_best_32 : decode cX3_best 32 = .ok (.iload 4, 2) := by decide +kernel
theorem dX3_best_34 : decode cX3_best 34 = .ok (.ifCond .lt 15, 3) := by decide +kernel
theorem dX3_best_37 : decode cX3_best 37 = .ok (.aload_n 1, 1) := by decide +kernel
theorem dX3_best_38 : decode cX3_best 38 = .ok (.iload_n 2, 1) := by decide +kernel
theorem dX3_best_39 : decode cX3_best 39 = .ok (.iload 4, 2) := by decide +kernel
theorem dX3_best_41 : decode cX3_best 41 = .ok (.iload 7, 2) := by decide +kernel
theorem dX3_best_43 : decode cX3_best 43 = .ok (.invokevirtual 103, 3) := by decide +kernel
theorem dX3_best_46 : decode cX3_best 46 = .ok (.ifCond .eq 16, 3) := by decide +kernel
theorem dX3_best_49 : decode cX3_best 49 = .ok (.aload_n 0, 1) := by decide +kernel
theorem dX3_best_50 : decode cX3_best 50 = .ok (.iload_n 3, 1) := by decide +kernel
theorem dX3_best_51 : decode cX3_best 51 = .ok (.iload 7, 2) := by decide +kernel
theorem dX3_best_53 : decode cX3_best 53 = .ok (.invokevirtual 82, 3) := by decide +kernel
theorem dX3_best_56 : decode cX3_best 56 = .ok (.istore 6, 2) := by decide +kernel
theorem dX3_best_58 : decode cX3_best 58 = .ok (.iload 7, 2) := by decide +kernel
theorem dX3_best_60 : decode cX3_best 60 = .ok (.istore 5, 2) := by decide +kernel
theorem dX3_best_62 : decode cX3_best 62 = .ok (.iinc 7 1, 3) := by decide +kernel
theorem dX3_best_65 : decode cX3_best 65 = .ok (.goto (-54), 3) := by decide +kernel
theorem dX3_best_68 : decode cX3_best 68 = .ok (.iload 5, 2) := by decide +kernel
theorem dX3_best_70 : decode cX3_best 70 = .ok (.ireturn, 1) := by decide +kernel
theorem k_sp1000 : (Int16.ofInt (1000)).toInt32 = 1000 := by decide
theorem q0_9 : Cond.selects RX3 yX3_costAt yX3_costAt ∈ TT := tq0 9 rfl rfl
theorem q1_6 : Cond.initialized RX3 ∈ TT := tq1 6 rfl rfl
theorem q2_227 : Cond.instanceMethod yX10_size ∈ TT := tq2 227 rfl rfl
theorem q2_228 : Cond.selects RX10 yX10_size yX10_size ∈ TT := tq2 228 rfl rfl
theorem q2_229 : Cond.code yX10_size cX10_size 1 (some .int) ∈ TT := tq2 229 rfl rfl
theorem q4_7 : Cond.methodLink RX3 75 yX10_size ∈ TT := tq4 7 rfl rfl
theorem q4_20 : Cond.methodLink RX3 82 yX3_costAt ∈ TT := tq4 20 rfl rfl
theorem q4_22 : Cond.instanceMethod yX3_costAt ∈ TT := tq4 22 rfl rfl
theorem q4_23 : Cond.code yX3_costAt cX3_costAt 3 (some .int) ∈ TT := tq4 23 rfl rfl
theorem q4_25 : Cond.methodLink RX3 103 yX10_rhyme ∈ TT := tq4 25 rfl rfl
theorem lk_RX3_82 : vlk RX3 82 yX3_costAt cX3_costAt 3 (some .int) 2 := ⟨List.forall_mem_cons.mpr ⟨q4_20, List.forall_mem_cons.mpr ⟨q4_22, List.forall_mem_cons.mpr ⟨q0_9, List.forall_mem_cons.mpr ⟨q1_6, fun _ h => absurd h List.not_mem_nil⟩⟩⟩⟩, q4_23, by decide, by decide, by decide +kernel⟩
theorem lk_RX3_75 : vlk RX3 75 yX10_size cX10_size 1 (some .int) 0 := ⟨List.forall_mem_cons.mpr ⟨q4_7, List.forall_mem_cons.mpr ⟨q2_227, List.forall_mem_cons.mpr ⟨q2_228, List.forall_mem_cons.mpr ⟨q1_10, fun _ h => absurd h List.not_mem_nil⟩⟩⟩⟩, q2_229, by decide, by decide, by decide +kernel⟩
theorem lk_RX3_103 : vlk RX3 103 yX10_rhyme cX10_rhyme 4 (some .boolean) 3 := ⟨List.forall_mem_cons.mpr ⟨q4_25, List.forall_mem_cons.mpr ⟨q3_136, List.forall_mem_cons.mpr ⟨q3_137, List.forall_mem_cons.mpr ⟨q1_10, fun _ h => absurd h List.not_mem_nil⟩⟩⟩⟩, q3_138, by decide, by decide, by decide +kernel⟩
def F_X3_best_b62 (s_a1 : S10) (s_o : S3) (x2 : Int32) (x3 : Int32) (x4 : Int32) (K11 : Int32 → Int32 → Int32 → Option (Int32)) (v5 : Int32) (v6 : Int32) (v7 : Int32) : Option (Int32) := nm (v7 + 1) fun v7_1 => K11 v5 v6 v7_1
def F_X3_best_b49 (s_a1 : S10) (s_o : S3) (x2 : Int32) (x3 : Int32) (x4 : Int32) (K11 : Int32 → Int32 → Int32 → Option (Int32)) (v7 : Int32) : Option (Int32) := (F_X3_costAt s_o x3 v7).bind fun q_2 => nm q_2 fun v6_3 => nm v7 fun v5_4 => F_X3_best_b62 s_a1 s_o x2 x3 x4 K11 v5_4 v6_3 v7
def F_X3_best_b11 (s_a1 : S10) (s_o : S3) (x2 : Int32) (x3 : Int32) (x4 : Int32) : Nat → Int32 → Int32 → Int32 → Option (Int32)
  | 0, _, _, _ => none
  | n + 1, v5, v6, v7 => (F_X10_size s_a1).bind fun q_5 => (if q_5 ≤ v7 then some (v5) else (F_X3_costAt s_o x3 v7).bind fun q_6 => (if v6 ≤ q_6 then F_X3_best_b62 s_a1 s_o x2 x3 x4 (F_X3_best_b11 s_a1 s_o x2 x3 x4 n) v5 v6 v7 else (if x4 < 0 then F_X3_best_b49 s_a1 s_o x2 x3 x4 (F_X3_best_b11 s_a1 s_o x2 x3 x4 n) v7 else (F_X10_rhyme s_a1 x2 x4 v7).bind fun q_7 => (if q_7 = 0 then F_X3_best_b62 s_a1 s_o x2 x3 x4 (F_X3_best_b11 s_a1 s_o x2 x3 x4 n) v5 v6 v7 else F_X3_best_b49 s_a1 s_o x2 x3 x4 (F_X3_best_b11 s_a1 s_o x2 x3 x4 n) v7))))
def F_X3_best (s_a1 : S10) (s_o : S3) (x2 : Int32) (x3 : Int32) (x4 : Int32) : Option (Int32) := nm (-1) fun v5_8 => nm 1000 fun v6_9 => nm 0 fun v7_10 => F_X3_best_b11 s_a1 s_o x2 x3 x4 fu v5_8 v6_9 v7_10
def w_X3_best (a1 o : Nat → Nat) (cB cI cJ cZ : ClassId) (s_a1 : S10) (s_o : S3) : va_W := List.flatten [(gX10 a1 cB cI cJ cZ s_a1), (gX3 o cB cI cJ cZ s_o)]
abbrev rm_X3_best : Room := { frames := 3, cells := 0, slots := 0, locals := 66 }
set_option maxHeartbeats 4000000 in
set_option maxRecDepth 100000 in
theorem c_X3_best (l : Launch) (D : gG) (cB cI cJ cZ : ClassId) (a1 o : Nat → Nat) (s_a1 : S10) (s_o : S3) (x2 : Int32) (x3 : Int32) (x4 : Int32) (r : Int32) (hf : F_X3_best s_a1 s_o x2 x3 x4 = some r) : gM l D (tyL cB cI cJ cZ) yX3_best cX3_best 8 (some .int) rm_X3_best [.ref (o 0), .ref (a1 0), .int x2, .int x3, .int x4] (w_X3_best a1 o cB cI cJ cZ s_a1 s_o) (some (.int r)) (w_X3_best a1 o cB cI cJ cZ s_a1 s_o) := by
  refine met_of (by decide) (Nat.le_of_ble_eq_true rfl) ?_
  intro p e s m args below meth c A cx hr hA
  show gW p l e rm_X3_best s m args below meth c D A 8 _ 0 0 _ [(0, .ref (o 0)), (1, .ref (a1 0)), (2, .int x2), (3, .int x3), (4, .int x4)] 0 []
  have h62 : ∀ (K11 : Int32 → Int32 → Int32 → Option (Int32)), (∀ (v5 : Int32) (v6 : Int32) (v7 : Int32), K11 v5 v6 v7 = some r → gW p l e rm_X3_best s m args below meth c D A 8 (MQ below (QM D (tyL cB cI cJ cZ) (some (.int r)) (w_X3_best a1 o cB cI cJ cZ s_a1 s_o) (w_X3_best a1 o cB cI cJ cZ s_a1 s_o) s.heap.size) args s 0 0 A) 0 0 (w_X3_best a1 o cB cI cJ cZ s_a1 s_o) [(0, .ref (o 0)), (1, .ref (a1 0)), (2, .int x2), (3, .int x3), (4, .int x4), (5, .int v5), (6, .int v6), (7, .int v7)] 11 []) → ∀ (v5 : Int32) (v6 : Int32) (v7 : Int32), F_X3_best_b62 s_a1 s_o x2 x3 x4 K11 v5 v6 v7 = some r → gW p l e rm_X3_best s m args below meth c D A 8 (MQ below (QM D (tyL cB cI cJ cZ) (some (.int r)) (w_X3_best a1 o cB cI cJ cZ s_a1 s_o) (w_X3_best a1 o cB cI cJ cZ s_a1 s_o) s.heap.size) args s 0 0 A) 0 0 (w_X3_best a1 o cB cI cJ cZ s_a1 s_o) [(0, .ref (o 0)), (1, .ref (a1 0)), (2, .int x2), (3, .int x3), (4, .int x4), (5, .int v5), (6, .int v6), (7, .int v7)] 62 [] := by
    intro K11 kh11 v5 v6 v7 hf
    rw [F_X3_best_b62] at hf
    refine g_inc cx (L2 := fun v7_1 => [(7, .int v7_1), (0, .ref (o 0)), (1, .ref (a1 0)), (2, .int x2), (3, .int x3), (4, .int x4), (5, .int v5), (6, .int v6)]) 7 hf dX3_best_62 rfl (k_inc1 _) (Nat.le_of_ble_eq_true rfl) (fun _ => rfl) (fun v7_1 hf => ?_)
    refine g_goto (tgt := 11) cx dX3_best_65 rfl ?_
    refine g_sub [1, 2, 3, 4, 5, 6, 7, 0] rfl ?_
    exact kh11 _ _ _ hf
  have h49 : ∀ (K11 : Int32 → Int32 → Int32 → Option (Int32)), (∀ (v5 : Int32) (v6 : Int32) (v7 : Int32), K11 v5 v6 v7 = some r → gW p l e rm_X3_best s m args below meth c D A 8 (MQ below (QM D (tyL cB cI cJ cZ) (some (.int r)) (w_X3_best a1 o cB cI cJ cZ s_a1 s_o) (w_X3_best a1 o cB cI cJ cZ s_a1 s_o) s.heap.size) args s 0 0 A) 0 0 (w_X3_best a1 o cB cI cJ cZ s_a1 s_o) [(0, .ref (o 0)), (1, .ref (a1 0)), (2, .int x2), (3, .int x3), (4, .int x4), (5, .int v5), (6, .int v6), (7, .int v7)] 11 []) → ∀ (v7 : Int32), F_X3_best_b49 s_a1 s_o x2 x3 x4 K11 v7 = some r → gW p l e rm_X3_best s m args below meth c D A 8 (MQ below (QM D (tyL cB cI cJ cZ) (some (.int r)) (w_X3_best a1 o cB cI cJ cZ s_a1 s_o) (w_X3_best a1 o cB cI cJ cZ s_a1 s_o) s.heap.size) args s 0 0 A) 0 0 (w_X3_best a1 o cB cI cJ cZ s_a1 s_o) [(0, .ref (o 0)), (1, .ref (a1 0)), (2, .int x2), (3, .int x3), (4, .int x4), (7, .int v7)] 49 [] := by
    intro K11 kh11 v7 hf
    rw [F_X3_best_b49] at hf
    refine g_aln cx 0 dX3_best_49 rfl ?_
    refine g_iln cx 3 dX3_best_50 rfl ?_
    refine g_il cx 5 dX3_best_51 rfl ?_
    refine ob hf (fun q_2 hq_2 hf => ?_)
    refine g_callVGiR cx lk_RX3_82 (c_X3_costAt l D cB cI cJ cZ o s_o x3 v7 q_2 hq_2) rfl [1] rfl rfl (ci := 3) (q1 := 0) rfl rfl rfl (Nat.le_of_ble_eq_true rfl) ⟨rfl, rfl, Nat.le_of_ble_eq_true rfl, Nat.le_of_ble_eq_true rfl⟩ dX3_best_53 ?_
    refine g_is cx (L2 := fun v6_3 => [(6, .int v6_3), (0, .ref (o 0)), (1, .ref (a1 0)), (2, .int x2), (3, .int x3), (4, .int x4), (7, .int v7)]) hf dX3_best_56 (Nat.le_of_ble_eq_true rfl) (fun _ => rfl) (fun v6_3 hf => ?_)
    refine g_il cx 6 dX3_best_58 rfl ?_
    refine g_is cx (L2 := fun v5_4 => [(5, .int v5_4), (6, .int v6_3), (0, .ref (o 0)), (1, .ref (a1 0)), (2, .int x2), (3, .int x3), (4, .int x4), (7, .int v7)]) hf dX3_best_60 (Nat.le_of_ble_eq_true rfl) (fun _ => rfl) (fun v5_4 hf => ?_)
    refine g_sub [2, 3, 4, 5, 6, 0, 1, 7] rfl ?_
    exact h62 _ kh11 _ _ _ hf
  have h11 : ∀ (n : Nat) (v5 : Int32) (v6 : Int32) (v7 : Int32), F_X3_best_b11 s_a1 s_o x2 x3 x4 n v5 v6 v7 = some r → gW p l e rm_X3_best s m args below meth c D A 8 (MQ below (QM D (tyL cB cI cJ cZ) (some (.int r)) (w_X3_best a1 o cB cI cJ cZ s_a1 s_o) (w_X3_best a1 o cB cI cJ cZ s_a1 s_o) s.heap.size) args s 0 0 A) 0 0 (w_X3_best a1 o cB cI cJ cZ s_a1 s_o) [(0, .ref (o 0)), (1, .ref (a1 0)), (2, .int x2), (3, .int x3), (4, .int x4), (5, .int v5), (6, .int v6), (7, .int v7)] 11 [] := by
    intro n
    induction n with
    | zero => intro v5 v6 v7 hf; rw [F_X3_best_b11] at hf; cases hf
    | succ n ih =>
      intro v5 v6 v7 hf
      rw [F_X3_best_b11] at hf
      refine g_il cx 7 dX3_best_11 rfl ?_
      refine g_aln cx 1 dX3_best_13 rfl ?_
      refine ob hf (fun q_5 hq_5 hf => ?_)
      refine g_callVGiR cx lk_RX3_75 (c_X10_size l D cB cI cJ cZ a1 s_a1 q_5 hq_5) rfl [0] rfl rfl (ci := 8) (q1 := 0) rfl rfl rfl (Nat.le_of_ble_eq_true rfl) ⟨rfl, rfl, Nat.le_of_ble_eq_true rfl, Nat.le_of_ble_eq_true rfl⟩ dX3_best_14 ?_
      refine g_ic_ge (tgt := 68) cx hf dX3_best_17 rfl (fun hf => ?_) (fun hf => ?_)
      · refine g_il cx 5 dX3_best_68 rfl ?_
        exact g_iret (ovf := fun (r : Int32) => (some (.int r))) (wf := fun (r : Int32) => (w_X3_best a1 o cB cI cJ cZ s_a1 s_o)) cx hA hr hf rfl rfl dX3_best_70
      · refine g_aln cx 0 dX3_best_20 rfl ?_
        refine g_iln cx 3 dX3_best_21 rfl ?_
        refine g_il cx 7 dX3_best_22 rfl ?_
        refine ob hf (fun q_6 hq_6 hf => ?_)
        refine g_callVGiR cx lk_RX3_82 (c_X3_costAt l D cB cI cJ cZ o s_o x3 v7 q_6 hq_6) rfl [1] rfl rfl (ci := 3) (q1 := 0) rfl rfl rfl (Nat.le_of_ble_eq_true rfl) ⟨rfl, rfl, Nat.le_of_ble_eq_true rfl, Nat.le_of_ble_eq_true rfl⟩ dX3_best_24 ?_
        refine g_il cx 6 dX3_best_27 rfl ?_
        refine g_ic_ge (tgt := 62) cx hf dX3_best_29 rfl (fun hf => ?_) (fun hf => ?_)
        · exact h62 _ ih _ _ _ hf
        · refine g_il cx 4 dX3_best_32 rfl ?_
          refine g_if_lt (tgt := 49) cx hf dX3_best_34 rfl (fun hf => ?_) (fun hf => ?_)
          · refine g_sub [0, 1, 2, 3, 4, 7] rfl ?_
            exact h49 _ ih _ hf
          · refine g_aln cx 1 dX3_best_37 rfl ?_
            refine g_iln cx 2 dX3_best_38 rfl ?_
            refine g_il cx 4 dX3_best_39 rfl ?_
            refine g_il cx 7 dX3_best_41 rfl ?_
            refine ob hf (fun q_7 hq_7 hf => ?_)
            refine g_callVGiR cx lk_RX3_103 (c_X10_rhyme l D cB cI cJ cZ a1 s_a1 x2 x4 v7 q_7 hq_7) rfl [0] rfl rfl (ci := 8) (q1 := 0) rfl rfl rfl (Nat.le_of_ble_eq_true rfl) ⟨rfl, rfl, Nat.le_of_ble_eq_true rfl, Nat.le_of_ble_eq_true rfl⟩ dX3_best_43 ?_
            refine g_if_eq (tgt := 62) cx hf dX3_best_46 rfl (fun hf => ?_) (fun hf => ?_)
            · exact h62 _ ih _ _ _ hf
            · refine g_sub [0, 1, 2, 3, 4, 7] rfl ?_
              exact h49 _ ih _ hf
  rw [F_X3_best] at hf
  refine g_ic cx dX3_best_0 k_icm1 ?_
  refine g_is cx (L2 := fun v5_8 => [(5, .int v5_8), (0, .ref (o 0)), (1, .ref (a1 0)), (2, .int x2), (3, .int x3), (4, .int x4)]) hf dX3_best_1 (Nat.le_of_ble_eq_true rfl) (fun _ => rfl) (fun v5_8 hf => ?_)
  refine g_sp cx dX3_best_3 k_sp1000 ?_
  refine g_is cx (L2 := fun v6_9 => [(6, .int v6_9), (5, .int v5_8), (0, .ref (o 0)), (1, .ref (a1 0)), (2, .int x2), (3, .int x3), (4, .int x4)]) hf dX3_best_6 (Nat.le_of_ble_eq_true rfl) (fun _ => rfl) (fun v6_9 hf => ?_)
  refine g_ic cx dX3_best_8 k_ic0 ?_
  refine g_is cx (L2 := fun v7_10 => [(7, .int v7_10), (6, .int v6_9), (5, .int v5_8), (0, .ref (o 0)), (1, .ref (a1 0)), (2, .int x2), (3, .int x3), (4, .int x4)]) hf dX3_best_9 (Nat.le_of_ble_eq_true rfl) (fun _ => rfl) (fun v7_10 hf => ?_)
  refine g_sub [3, 4, 5, 6, 7, 2, 1, 0] rfl ?_
  exact h11 fu _ _ _ hf
def tX3_weigh_9 : List Nat := 3 :: 232 :: 184 :: 0 :: 85 :: 184 :: 0 :: 60 :: 132 :: 6 :: 1 :: 167 :: 255 :: 123 :: 177 :: []
def tX3_weigh_8 : List Nat := 7 :: 42 :: 180 :: 0 :: 9 :: 21 :: 4 :: 16 :: 16 :: 104 :: 21 :: 6 :: 96 :: 21 :: 7 :: 17 :: tX3_weigh_9
def tX3_weigh_7 : List Nat := 18 :: 21 :: 4 :: 182 :: 0 :: 66 :: 160 :: 0 :: 7 :: 3 :: 167 :: 0 :: 4 :: 4 :: 96 :: 54 :: tX3_weigh_8
def tX3_weigh_6 : List Nat := 21 :: 5 :: 21 :: 8 :: 182 :: 0 :: 82 :: 54 :: 9 :: 21 :: 9 :: 21 :: 6 :: 43 :: 180 :: 0 :: tX3_weigh_7
def tX3_weigh_5 : List Nat := 3 :: 167 :: 0 :: 22 :: 21 :: 8 :: 156 :: 0 :: 9 :: 17 :: 3 :: 232 :: 167 :: 0 :: 11 :: 42 :: tX3_weigh_6
def tX3_weigh_4 : List Nat := 48 :: 29 :: 21 :: 5 :: 21 :: 6 :: 182 :: 0 :: 56 :: 54 :: 8 :: 21 :: 5 :: 156 :: 0 :: 7 :: tX3_weigh_5
def tX3_weigh_3 : List Nat := 153 :: 0 :: 81 :: 21 :: 5 :: 156 :: 0 :: 7 :: 2 :: 167 :: 0 :: 16 :: 42 :: 43 :: 180 :: 0 :: tX3_weigh_4
def tX3_weigh_2 : List Nat := 0 :: 127 :: 17 :: 3 :: 232 :: 54 :: 7 :: 43 :: 28 :: 21 :: 4 :: 21 :: 6 :: 184 :: 0 :: 78 :: tX3_weigh_3
def tX3_weigh_1 : List Nat := 71 :: 54 :: 5 :: 3 :: 54 :: 6 :: 21 :: 6 :: 43 :: 180 :: 0 :: 48 :: 182 :: 0 :: 75 :: 162 :: tX3_weigh_2
def tX3_weigh_0 : List Nat := 43 :: 180 :: 0 :: 30 :: 28 :: 21 :: 4 :: 43 :: 180 :: 0 :: 18 :: 182 :: 0 :: 24 :: 182 :: 0 :: tX3_weigh_1
theorem tX3_weighf_0 : (cX3_weigh.data.toList.map UInt8.toNat).drop 0 = tX3_weigh_0 := by decide +kernel
theorem tX3_weighf_1 : (cX3_weigh.data.toList.map UInt8.toNat).drop 16 = tX3_weigh_1 := fd_next (k := 0) tX3_weighf_0 rfl
theorem tX3_weighf_2 : (cX3_weigh.data.toList.map UInt8.toNat).drop 32 = tX3_weigh_2 := fd_next (k := 16) tX3_weighf_1 rfl
theorem tX3_weighf_3 : (cX3_weigh.data.toList.map UInt8.toNat).drop 48 = tX3_weigh_3 := fd_next (k := 32) tX3_weighf_2 rfl
theorem tX3_weighf_4 : (cX3_weigh.data.toList.map UInt8.toNat).drop 64 = tX3_weigh_4 := fd_next (k := 48) tX3_weighf_3 rfl
theorem tX3_weighf_5 : (cX3_weigh.data.toList.map UInt8.toNat).drop 80 = tX3_weigh_5 := fd_next (k := 64) tX3_weighf_4 rfl
theorem tX3_weighf_6 : (cX3_weigh.data.toList.map UInt8.toNat).drop 96 = tX3_weigh_6 := fd_next (k := 80) tX3_weighf_5 rfl
theorem tX3_weighf_7 : (cX3_weigh.data.toList.map UInt8.toNat).drop 112 = tX3_weigh_7 := fd_next (k := 96) tX3_weighf_6 rfl
theorem tX3_weighf_8 : (cX3_weigh.data.toList.map UInt8.toNat).drop 128 = tX3_weigh_8 := fd_next (k := 112) tX3_weighf_7 rfl
theorem tX3_weighf_9 : (cX3_weigh.data.toList.map UInt8.toNat).drop 144 = tX3_weigh_9 := fd_next (k := 128) tX3_weighf_8 rfl
theorem dX3_weigh_0 : decode cX3_weigh 0 = .ok (.aload_n 1, 1) := dk_43 (fdB_of (k := 0) tX3_weighf_0 0 43 rfl)
theorem dX3_weigh_1 : decode cX3_weigh 1 = .ok (.getfield 30, 3) := dk_180 (fdB_of (k := 0) tX3_weighf_0 1 180 rfl) (fdB_of (k := 0) tX3_weighf_0 2 0 rfl) (fdB_of (k := 0) tX3_weighf_0 3 30 rfl)
theorem dX3_weigh_4 : decode cX3_weigh 4 = .ok (.iload_n 2, 1) := dk_28 (fdB_of (k := 0) tX3_weighf_0 4 28 rfl)
theorem dX3_weigh_5 : decode cX3_weigh 5 = .ok (.iload 4, 2) := dk_21 (fdB_of (k := 0) tX3_weighf_0 5 21 rfl) (fdB_of (k := 0) tX3_weighf_0 6 4 rfl)
theorem dX3_weigh_7 : decode cX3_weigh 7 = .ok (.aload_n 1, 1) := dk_43 (fdB_of (k := 0) tX3_weighf_0 7 43 rfl)
theorem dX3_weigh_8 : decode cX3_weigh 8 = .ok (.getfield 18, 3) := dk_180 (fdB_of (k := 0) tX3_weighf_0 8 180 rfl) (fdB_of (k := 0) tX3_weighf_0 9 0 rfl) (fdB_of (k := 0) tX3_weighf_0 10 18 rfl)
theorem dX3_weigh_11 : decode cX3_weigh 11 = .ok (.invokevirtual 24, 3) := dk_182 (fdB_of (k := 0) tX3_weighf_0 11 182 rfl) (fdB_of (k := 0) tX3_weighf_0 12 0 rfl) (fdB_of (k := 0) tX3_weighf_0 13 24 rfl)
theorem dX3_weigh_14 : decode cX3_weigh 14 = .ok (.invokevirtual 71, 3) := dk_182 (fdB_of (k := 0) tX3_weighf_0 14 182 rfl) (fdB_of (k := 0) tX3_weighf_0 15 0 rfl) (fdB_of (k := 16) tX3_weighf_1 0 71 rfl)
theorem dX3_weigh_17 : decode cX3_weigh 17 = .ok (.istore 5, 2) := dk_54 (fdB_of (k := 16) tX3_weighf_1 1 54 rfl) (fdB_of (k := 16) tX3_weighf_1 2 5 rfl)
theorem dX3_weigh_19 : decode cX3_weigh 19 = .ok (.iconst 0, 1) := dk_3 (fdB_of (k := 16) tX3_weighf_1 3 3 rfl)
theorem dX3_weigh_20 : decode cX3_weigh 20 = .ok (.istore 6, 2) := dk_54 (fdB_of (k := 16) tX3_weighf_1 4 54 rfl) (fdB_of (k := 16) tX3_weighf_1 5 6 rfl)
theorem dX3_weigh_22 : decode cX3_weigh 22 = .ok (.iload 6, 2) := dk_21 (fdB_of (k := 16) tX3_weighf_1 6 21 rfl) (fdB_of (k := 16) tX3_weighf_1 7 6 rfl)
theorem dX3_weigh_24 : decode cX3_weigh 24 = .ok (.aload_n 1, 1) := dk_43 (fdB_of (k := 16) tX3_weighf_1 8 43 rfl)
theorem dX3_weigh_25 : decode cX3_weigh 25 = .ok (.getfield 48, 3) := dk_180 (fdB_of (k := 16) tX3_weighf_1 9 180 rfl) (fdB_of (k := 16) tX3_weighf_1 10 0 rfl) (fdB_of (k := 16) tX3_weighf_1 11 48 rfl)
theorem dX3_weigh_28 : decode cX3_weigh 28 = .ok (.invokevirtual 75, 3) := dk_182 (fdB_of (k := 16) tX3_weighf_1 12 182 rfl) (fdB_of (k := 16) tX3_weighf_1 13 0 rfl) (fdB_of (k := 16) tX3_weighf_1 14 75 rfl)
theorem dX3_weigh_31 : decode cX3_weigh 31 = .ok (.if_icmp .ge 127, 3) := dk_162 (fdB_of (k := 16) tX3_weighf_1 15 162 rfl) (fdB_of (k := 32) tX3_weighf_2 0 0 rfl) (fdB_of (k := 32) tX3_weighf_2 1 127 rfl) (by decide +kernel)
theorem dX3_weigh_34 : decode cX3_weigh 34 = .ok (.sipush 1000, 3) := dk_17 (fdB_of (k := 32) tX3_weighf_2 2 17 rfl) (fdB_of (k := 32) tX3_weighf_2 3 3 rfl) (fdB_of (k := 32) tX3_weighf_2 4 232 rfl) (by decide +kernel)
theorem dX3_weigh_37 : decode cX3_weigh 37 = .ok (.istore 7, 2) := dk_54 (fdB_of (k := 32) tX3_weighf_2 5 54 rfl) (fdB_of (k := 32) tX3_weighf_2 6 7 rfl)
theorem dX3_weigh_39 : decode cX3_weigh 39 = .ok (.aload_n 1, 1) := dk_43 (fdB_of (k := 32) tX3_weighf_2 7 43 rfl)
theorem dX3_weigh_40 : decode cX3_weigh 40 = .ok (.iload_n 2, 1) := dk_28 (fdB_of (k := 32) tX3_weighf_2 8 28 rfl)
theorem dX3_weigh_41 : decode cX3_weigh 41 = .ok (.iload 4, 2) := dk_21 (fdB_of (k := 32) tX3_weighf_2 9 21 rfl) (fdB_of (k := 32) tX3_weighf_2 10 4 rfl)
theorem dX3_weigh_43 : decode cX3_weigh 43 = .ok (.iload 6, 2) := dk_21 (fdB_of (k := 32) tX3_weighf_2 11 21 rfl) (fdB_of (k := 32) tX3_weighf_2 12 6 rfl)
theorem dX3_weigh_45 : decode cX3_weigh 45 = .ok (.invokestatic 78, 3) := dk_184 (fdB_of (k := 32) tX3_weighf_2 13 184 rfl) (fdB_of (k := 32) tX3_weighf_2 14 0 rfl) (fdB_of (k := 32) tX3_weighf_2 15 78 rfl)
theorem dX3_weigh_48 : decode cX3_weigh 48 = .ok (.ifCond .eq 81, 3) := dk_153 (fdB_of (k := 48) tX3_weighf_3 0 153 rfl) (fdB_of (k := 48) tX3_weighf_3 1 0 rfl) (fdB_of (k := 48) tX3_weighf_3 2 81 rfl) (by decide +kernel)
theorem dX3_weigh_51 : decode cX3_weigh 51 = .ok (.iload 5, 2) := dk_21 (fdB_of (k := 48) tX3_weighf_3 3 21 rfl) (fdB_of (k := 48) tX3_weighf_3 4 5 rfl)
theorem dX3_weigh_53 : decode cX3_weigh 53 = .ok (.ifCond .ge 7, 3) := dk_156 (fdB_of (k := 48) tX3_weighf_3 5 156 rfl) (fdB_of (k := 48) tX3_weighf_3 6 0 rfl) (fdB_of (k := 48) tX3_weighf_3 7 7 rfl) (by decide +kernel)
theorem dX3_weigh_56 : decode cX3_weigh 56 = .ok (.iconst (-1), 1) := dk_2 (fdB_of (k := 48) tX3_weighf_3 8 2 rfl)
theorem dX3_weigh_57 : decode cX3_weigh 57 = .ok (.goto 16, 3) := dk_167 (fdB_of (k := 48) tX3_weighf_3 9 167 rfl) (fdB_of (k := 48) tX3_weighf_3 10 0 rfl) (fdB_of (k := 48) tX3_weighf_3 11 16 rfl) (by decide +kernel)
theorem dX3_weigh_60 : decode cX3_weigh 60 = .ok (.aload_n 0, 1) := dk_42 (fdB_of (k := 48) tX3_weighf_3 12 42 rfl)
theorem dX3_weigh_61 : decode cX3_weigh 61 = .ok (.aload_n 1, 1) := dk_43 (fdB_of (k := 48) tX3_weighf_3 13 43 rfl)
theorem dX3_weigh_62 : decode cX3_weigh 62 = .ok (.getfield 48, 3) := dk_180 (fdB_of (k := 48) tX3_weighf_3 14 180 rfl) (fdB_of (k := 48) tX3_weighf_3 15 0 rfl) (fdB_of (k := 64) tX3_weighf_4 0 48 rfl)
theorem dX3_weigh_65 : decode cX3_weigh 65 = .ok (.iload_n 3, 1) := dk_29 (fdB_of (k := 64) tX3_weighf_4 1 29 rfl)
theorem dX3_weigh_66 : decode cX3_weigh 66 = .ok (.iload 5, 2) := dk_21 (fdB_of (k := 64) tX3_weighf_4 2 21 rfl) (fdB_of (k := 64) tX3_weighf_4 3 5 rfl)
theorem dX3_weigh_68 : decode cX3_weigh 68 = .ok (.iload 6, 2) := dk_21 (fdB_of (k := 64) tX3_weighf_4 4 21 rfl) (fdB_of (k := 64) tX3_weighf_4 5 6 rfl)
theorem dX3_weigh_70 : decode cX3_weigh 70 = .ok (.invokevirtual 56, 3) := dk_182 (fdB_of (k := 64) tX3_weighf_4 6 182 rfl) (fdB_of (k := 64) tX3_weighf_4 7 0 rfl) (fdB_of (k := 64) tX3_weighf_4 8 56 rfl)
theorem dX3_weigh_73 : decode cX3_weigh 73 = .ok (.istore 8, 2) := dk_54 (fdB_of (k := 64) tX3_weighf_4 9 54 rfl) (fdB_of (k := 64) tX3_weighf_4 10 8 rfl)
theorem dX3_weigh_75 : decode cX3_weigh 75 = .ok (.iload 5, 2) := dk_21 (fdB_of (k := 64) tX3_weighf_4 11 21 rfl) (fdB_of (k := 64) tX3_weighf_4 12 5 rfl)
theorem dX3_weigh_77 : decode cX3_weigh 77 = .ok (.ifCond .ge 7, 3) := dk_156 (fdB_of (k := 64) tX3_weighf_4 13 156 rfl) (fdB_of (k := 64) tX3_weighf_4 14 0 rfl) (fdB_of (k := 64) tX3_weighf_4 15 7 rfl) (by decide +kernel)
theorem dX3_weigh_80 : decode cX3_weigh 80 = .ok (.iconst 0, 1) := dk_3 (fdB_of (k := 80) tX3_weighf_5 0 3 rfl)
theorem dX3_weigh_81 : decode cX3_weigh 81 = .ok (.goto 22, 3) := dk_167 (fdB_of (k := 80) tX3_weighf_5 1 167 rfl) (fdB_of (k := 80) tX3_weighf_5 2 0 rfl) (fdB_of (k := 80) tX3_weighf_5 3 22 rfl) (by decide +kernel)
theorem dX3_weigh_84 : decode cX3_weigh 84 = .ok (.iload 8, 2) := dk_21 (fdB_of (k := 80) tX3_weighf_5 4 21 rfl) (fdB_of (k := 80) tX3_weighf_5 5 8 rfl)
theorem dX3_weigh_86 : decode cX3_weigh 86 = .ok (.ifCond .ge 9, 3) := dk_156 (fdB_of (k := 80) tX3_weighf_5 6 156 rfl) (fdB_of (k := 80) tX3_weighf_5 7 0 rfl) (fdB_of (k := 80) tX3_weighf_5 8 9 rfl) (by decide +kernel)
theorem dX3_weigh_89 : decode cX3_weigh 89 = .ok (.sipush 1000, 3) := dk_17 (fdB_of (k := 80) tX3_weighf_5 9 17 rfl) (fdB_of (k := 80) tX3_weighf_5 10 3 rfl) (fdB_of (k := 80) tX3_weighf_5 11 232 rfl) (by decide +kernel)
theorem dX3_weigh_92 : decode cX3_weigh 92 = .ok (.goto 11, 3) := dk_167 (fdB_of (k := 80) tX3_weighf_5 12 167 rfl) (fdB_of (k := 80) tX3_weighf_5 13 0 rfl) (fdB_of (k := 80) tX3_weighf_5 14 11 rfl) (by decide +kernel)
theorem dX3_weigh_95 : decode cX3_weigh 95 = .ok (.aload_n 0, 1) := dk_42 (fdB_of (k := 80) tX3_weighf_5 15 42 rfl)
theorem dX3_weigh_96 : decode cX3_weigh 96 = .ok (.iload 5, 2) := dk_21 (fdB_of (k := 96) tX3_weighf_6 0 21 rfl) (fdB_of (k := 96) tX3_weighf_6 1 5 rfl)
theorem dX3_weigh_98 : decode cX3_weigh 98 = .ok (.iload 8, 2) := dk_21 (fdB_of (k := 96) tX3_weighf_6 2 21 rfl) (fdB_of (k := 96) tX3_weighf_6 3 8 rfl)
theorem dX3_weigh_100 : decode cX3_weigh 100 = .ok (.invokevirtual 82, 3) := dk_182 (fdB_of (k := 96) tX3_weighf_6 4 182 rfl) (fdB_of (k := 96) tX3_weighf_6 5 0 rfl) (fdB_of (k := 96) tX3_weighf_6 6 82 rfl)
theorem dX3_weigh_103 : decode cX3_weigh 103 = .ok (.istore 9, 2) := dk_54 (fdB_of (k := 96) tX3_weighf_6 7 54 rfl) (fdB_of (k := 96) tX3_weighf_6 8 9 rfl)
theorem dX3_weigh_105 : decode cX3_weigh 105 = .ok (.iload 9, 2) := dk_21 (fdB_of (k := 96) tX3_weighf_6 9 21 rfl) (fdB_of (k := 96) tX3_weighf_6 10 9 rfl)
theorem dX3_weigh_107 : decode cX3_weigh 107 = .ok (.iload 6, 2) := dk_21 (fdB_of (k := 96) tX3_weighf_6 11 21 rfl) (fdB_of (k := 96) tX3_weighf_6 12 6 rfl)
theorem dX3_weigh_109 : decode cX3_weigh 109 = .ok (.aload_n 1, 1) := dk_43 (fdB_of (k := 96) tX3_weighf_6 13 43 rfl)
theorem dX3_weigh_110 : decode cX3_weigh 110 = .ok (.getfield 18, 3) := dk_180 (fdB_of (k := 96) tX3_weighf_6 14 180 rfl) (fdB_of (k := 96) tX3_weighf_6 15 0 rfl) (fdB_of (k := 112) tX3_weighf_7 0 18 rfl)
theorem dX3_weigh_113 : decode cX3_weigh 113 = .ok (.iload 4, 2) := dk_21 (fdB_of (k := 112) tX3_weighf_7 1 21 rfl) (fdB_of (k := 112) tX3_weighf_7 2 4 rfl)
theorem dX3_weigh_115 : decode cX3_weigh 115 = .ok (.invokevirtual 66, 3) := dk_182 (fdB_of (k := 112) tX3_weighf_7 3 182 rfl) (fdB_of (k := 112) tX3_weighf_7 4 0 rfl) (fdB_of (k := 112) tX3_weighf_7 5 66 rfl)
theorem dX3_weigh_118 : decode cX3_weigh 118 = .ok (.if_icmp .ne 7, 3) := dk_160 (fdB_of (k := 112) tX3_weighf_7 6 160 rfl) (fdB_of (k := 112) tX3_weighf_7 7 0 rfl) (fdB_of (k := 112) tX3_weighf_7 8 7 rfl) (by decide +kernel)
theorem dX3_weigh_121 : decode cX3_weigh 121 = .ok (.iconst 0, 1) := dk_3 (fdB_of (k := 112) tX3_weighf_7 9 3 rfl)
theorem dX3_weigh_122 : decode cX3_weigh 122 = .ok (.goto 4, 3) := dk_167 (fdB_of (k := 112) tX3_weighf_7 10 167 rfl) (fdB_of (k := 112) tX3_weighf_7 11 0 rfl) (fdB_of (k := 112) tX3_weighf_7 12 4 rfl) (by decide +kernel)
theorem dX3_weigh_125 : decode cX3_weigh 125 = .ok (.iconst 1, 1) := dk_4 (fdB_of (k := 112) tX3_weighf_7 13 4 rfl)
theorem dX3_weigh_126 : decode cX3_weigh 126 = .ok (.iadd, 1) := dk_96 (fdB_of (k := 112) tX3_weighf_7 14 96 rfl)
theorem dX3_weigh_127 : decode cX3_weigh 127 = .ok (.istore 7, 2) := dk_54 (fdB_of (k := 112) tX3_weighf_7 15 54 rfl) (fdB_of (k := 128) tX3_weighf_8 0 7 rfl)
theorem dX3_weigh_129 : decode cX3_weigh 129 = .ok (.aload_n 0, 1) := dk_42 (fdB_of (k := 128) tX3_weighf_8 1 42 rfl)
theorem dX3_weigh_130 : decode cX3_weigh 130 = .ok (.getfield 9, 3) := dk_180 (fdB_of (k := 128) tX3_weighf_8 2 180 rfl) (fdB_of (k := 128) tX3_weighf_8 3 0 rfl) (fdB_of (k := 128) tX3_weighf_8 4 9 rfl)
theorem dX3_weigh_133 : decode cX3_weigh 133 = .ok (.iload 4, 2) := dk_21 (fdB_of (k := 128) tX3_weighf_8 5 21 rfl) (fdB_of (k := 128) tX3_weighf_8 6 4 rfl)
theorem dX3_weigh_135 : decode cX3_weigh 135 = .ok (.bipush 16, 2) := dk_16 (fdB_of (k := 128) tX3_weighf_8 7 16 rfl) (fdB_of (k := 128) tX3_weighf_8 8 16 rfl) (by decide +kernel)
theorem dX3_weigh_137 : decode cX3_weigh 137 = .ok (.imul, 1) := dk_104 (fdB_of (k := 128) tX3_weighf_8 9 104 rfl)
theorem dX3_weigh_138 : decode cX3_weigh 138 = .ok (.iload 6, 2) := dk_21 (fdB_of (k := 128) tX3_weighf_8 10 21 rfl) (fdB_of (k := 128) tX3_weighf_8 11 6 rfl)
theorem dX3_weigh_140 : decode cX3_weigh 140 = .ok (.iadd, 1) := dk_96 (fdB_of (k := 128) tX3_weighf_8 12 96 rfl)
theorem dX3_weigh_141 : decode cX3_weigh 141 = .ok (.iload 7, 2) := dk_21 (fdB_of (k := 128) tX3_weighf_8 13 21 rfl) (fdB_of (k := 128) tX3_weighf_8 14 7 rfl)
theorem dX3_weigh_143 : decode cX3_weigh 143 = .ok (.sipush 1000, 3) := dk_17 (fdB_of (k := 128) tX3_weighf_8 15 17 rfl) (fdB_of (k := 144) tX3_weighf_9 0 3 rfl) (fdB_of (k := 144) tX3_weighf_9 1 232 rfl) (by decide +kernel)
theorem dX3_weigh_146 : decode cX3_weigh 146 = .ok (.invokestatic 85, 3) := dk_184 (fdB_of (k := 144) tX3_weighf_9 2 184 rfl) (fdB_of (k := 144) tX3_weighf_9 3 0 rfl) (fdB_of (k := 144) tX3_weighf_9 4 85 rfl)
theorem dX3_weigh_149 : decode cX3_weigh 149 = .ok (.invokestatic 60, 3) := dk_184 (fdB_of (k := 144) tX3_weighf_9 5 184 rfl) (fdB_of (k := 144) tX3_weighf_9 6 0 rfl) (fdB_of (k := 144) tX3_weighf_9 7 60 rfl)
theorem dX3_weigh_152 : decode cX3_weigh 152 = .ok (.iinc 6 1, 3) := dk_132 (fdB_of (k := 144) tX3_weighf_9 8 132 rfl) (fdB_of (k := 144) tX3_weighf_9 9 6 rfl) (fdB_of (k := 144) tX3_weighf_9 10 1 rfl) (by decide +kernel)
theorem dX3_weigh_155 : decode cX3_weigh 155 = .ok (.goto (-133), 3) := dk_167 (fdB_of (k := 144) tX3_weighf_9 11 167 rfl) (fdB_of (k := 144) tX3_weighf_9 12 255 rfl) (fdB_of (k := 144) tX3_weighf_9 13 123 rfl) (by decide +kernel)
theorem dX3_weigh_158 : decode cX3_weigh 158 = .ok (.return_, 1) := dk_177 (fdB_of (k := 144) tX3_weighf_9 14 177 rfl)

theorem q0_8 : Cond.selects RX3 yX3_best yX3_best ∈ TT := tq0 8 rfl rfl
theorem q3_228 : Cond.methodLink RX3 24 yX4_size ∈ TT := tq3 228 rfl rfl
theorem q4_6 : Cond.methodLink RX3 71 yX1_behind ∈ TT := tq4 6 rfl rfl
theorem q4_8 : Cond.methodLink RX3 78 yX3_mayBecome ∈ TT := tq4 8 rfl rfl
theorem q4_9 : Cond.static yX3_mayBecome ∈ TT := tq4 9 rfl rfl
theorem q4_10 : Cond.code yX3_mayBecome cX3_mayBecome 4 (some .boolean) ∈ TT := tq4 10 rfl rfl
theorem q4_16 : Cond.methodLink RX3 56 yX3_best ∈ TT := tq4 16 rfl rfl
theorem q4_18 : Cond.instanceMethod yX3_best ∈ TT := tq4 18 rfl rfl
theorem q4_19 : Cond.code yX3_best cX3_best 8 (some .int) ∈ TT := tq4 19 rfl rfl
theorem q4_26 : Cond.methodLink RX3 85 Lib.Math.min.name ∈ TT := tq4 26 rfl rfl
theorem q4_27 : Cond.methodLink RX3 60 yX6_set ∈ TT := tq4 27 rfl rfl
theorem lk_RX3_60 : slk RX3 60 yX6_set cX6_set 3 none 3 := ⟨List.forall_mem_cons.mpr ⟨q4_27, List.forall_mem_cons.mpr ⟨q2_178, List.forall_mem_cons.mpr ⟨q1_19, fun _ h => absurd h List.not_mem_nil⟩⟩⟩, q2_179, by decide, by decide, by decide +kernel⟩
theorem mr_RX3_85 : ∀ w ∈ ([.methodLink RX3 85 Lib.Math.min.name, .static Lib.Math.min.name, .initialized "java/lang/Math", .code Lib.Math.min.name Lib.Math.min.code 2 (some .int)] : List Cond), w ∈ TT := List.forall_mem_cons.mpr ⟨q4_26, List.forall_mem_cons.mpr ⟨q1_82, List.forall_mem_cons.mpr ⟨q1_5, List.forall_mem_cons.mpr ⟨q1_83, fun _ h => absurd h List.not_mem_nil⟩⟩⟩⟩
theorem lk_RX3_78 : slk RX3 78 yX3_mayBecome cX3_mayBecome 4 (some .boolean) 4 := ⟨List.forall_mem_cons.mpr ⟨q4_8, List.forall_mem_cons.mpr ⟨q4_9, List.forall_mem_cons.mpr ⟨q1_6, fun _ h => absurd h List.not_mem_nil⟩⟩⟩, q4_10, by decide, by decide, by decide +kernel⟩
theorem lk_RX3_56 : vlk RX3 56 yX3_best cX3_best 8 (some .int) 4 := ⟨List.forall_mem_cons.mpr ⟨q4_16, List.forall_mem_cons.mpr ⟨q4_18, List.forall_mem_cons.mpr ⟨q0_8, List.forall_mem_cons.mpr ⟨q1_6, fun _ h => absurd h List.not_mem_nil⟩⟩⟩⟩, q4_19, by decide, by decide, by decide +kernel⟩
theorem lk_RX3_24 : vlk RX3 24 yX4_size cX4_size 1 (some .int) 0 := ⟨List.forall_mem_cons.mpr ⟨q3_228, List.forall_mem_cons.mpr ⟨q2_231, List.forall_mem_cons.mpr ⟨q2_232, List.forall_mem_cons.mpr ⟨q1_4, fun _ h => absurd h List.not_mem_nil⟩⟩⟩⟩, q2_233, by decide, by decide, by decide +kernel⟩
theorem lk_RX3_71 : vlk RX3 71 yX1_behind cX1_behind 5 (some .int) 3 := ⟨List.forall_mem_cons.mpr ⟨q4_6, List.forall_mem_cons.mpr ⟨q3_239, List.forall_mem_cons.mpr ⟨q4_0, List.forall_mem_cons.mpr ⟨q1_11, fun _ h => absurd h List.not_mem_nil⟩⟩⟩⟩, q4_1, by decide, by decide, by decide +kernel⟩
def F_X3_weigh_b129 (s_a1 : S7) (s_a1_forms : S1) (s_a1_paper : S4) (s_a1_words : S10) (x2 : Int32) (x3 : Int32) (x4 : Int32) (K22 : Int32 → Int32 → S3 → Option (S3)) (v5 : Int32) (v6 : Int32) (v7 : Int32) (zs_o : S3) : Option (S3) := (F_X6_set 128 (s3_costs zs_o) ((x4 * 16) + v6) (if 1000 < v7 then 1000 else v7)).bind fun q_1 => nm (v6 + 1) fun v6_2 => K22 v5 v6_2 (u3_costs zs_o q_1)
def F_X3_weigh_b126 (s_a1 : S7) (s_a1_forms : S1) (s_a1_paper : S4) (s_a1_words : S10) (x2 : Int32) (x3 : Int32) (x4 : Int32) (K22 : Int32 → Int32 → S3 → Option (S3)) (v5 : Int32) (v6 : Int32) (zs_o : S3) (k0 : Int32) (k1 : Int32) : Option (S3) := nm (k0 + k1) fun v7_3 => F_X3_weigh_b129 s_a1 s_a1_forms s_a1_paper s_a1_words x2 x3 x4 K22 v5 v6 v7_3 zs_o
def F_X3_weigh_b103 (s_a1 : S7) (s_a1_forms : S1) (s_a1_paper : S4) (s_a1_words : S10) (x2 : Int32) (x3 : Int32) (x4 : Int32) (K22 : Int32 → Int32 → S3 → Option (S3)) (v5 : Int32) (v6 : Int32) (zs_o : S3) (k0 : Int32) : Option (S3) := nm k0 fun v9_4 => (F_X4_wordAt s_a1_paper x4).bind fun q_5 => (if v6 = q_5 then F_X3_weigh_b126 s_a1 s_a1_forms s_a1_paper s_a1_words x2 x3 x4 K22 v5 v6 zs_o v9_4 0 else F_X3_weigh_b126 s_a1 s_a1_forms s_a1_paper s_a1_words x2 x3 x4 K22 v5 v6 zs_o v9_4 1)
def F_X3_weigh_b73 (s_a1 : S7) (s_a1_forms : S1) (s_a1_paper : S4) (s_a1_words : S10) (x2 : Int32) (x3 : Int32) (x4 : Int32) (K22 : Int32 → Int32 → S3 → Option (S3)) (v5 : Int32) (v6 : Int32) (zs_o : S3) (k0 : Int32) : Option (S3) := nm k0 fun v8_6 => (if 0 ≤ v5 then (if 0 ≤ v8_6 then (F_X3_costAt zs_o v5 v8_6).bind fun q_7 => F_X3_weigh_b103 s_a1 s_a1_forms s_a1_paper s_a1_words x2 x3 x4 K22 v5 v6 zs_o q_7 else F_X3_weigh_b103 s_a1 s_a1_forms s_a1_paper s_a1_words x2 x3 x4 K22 v5 v6 zs_o 1000) else F_X3_weigh_b103 s_a1 s_a1_forms s_a1_paper s_a1_words x2 x3 x4 K22 v5 v6 zs_o 0)
def F_X3_weigh_b22 (s_a1 : S7) (s_a1_forms : S1) (s_a1_paper : S4) (s_a1_words : S10) (x2 : Int32) (x3 : Int32) (x4 : Int32) : Nat → Int32 → Int32 → S3 → Option (S3)
  | 0, _, _, _ => none
  | n + 1, v5, v6, zs_o => (F_X10_size s_a1_words).bind fun q_8 => (if q_8 ≤ v6 then some (zs_o) else nm 1000 fun v7_9 => (F_X3_mayBecome s_a1 s_a1_forms s_a1_paper s_a1_words x2 x4 v6).bind fun q_10 => (if q_10 = 0 then F_X3_weigh_b129 s_a1 s_a1_forms s_a1_paper s_a1_words x2 x3 x4 (F_X3_weigh_b22 s_a1 s_a1_forms s_a1_paper s_a1_words x2 x3 x4 n) v5 v6 v7_9 zs_o else (if 0 ≤ v5 then (F_X3_best s_a1_words zs_o x3 v5 v6).bind fun q_11 => F_X3_weigh_b73 s_a1 s_a1_forms s_a1_paper s_a1_words x2 x3 x4 (F_X3_weigh_b22 s_a1 s_a1_forms s_a1_paper s_a1_words x2 x3 x4 n) v5 v6 zs_o q_11 else F_X3_weigh_b73 s_a1 s_a1_forms s_a1_paper s_a1_words x2 x3 x4 (F_X3_weigh_b22 s_a1 s_a1_forms s_a1_paper s_a1_words x2 x3 x4 n) v5 v6 zs_o (-1))))
def F_X3_weigh (s_a1 : S7) (s_o : S3) (s_a1_forms : S1) (s_a1_paper : S4) (s_a1_words : S10) (x2 : Int32) (x3 : Int32) (x4 : Int32) : Option (S3) := (F_X4_size s_a1_paper).bind fun q_12 => (F_X1_behind s_a1_forms x2 x4 q_12).bind fun q_13 => nm q_13 fun v5_14 => nm 0 fun v6_15 => F_X3_weigh_b22 s_a1 s_a1_forms s_a1_paper s_a1_words x2 x3 x4 fu v5_14 v6_15 s_o
def w_X3_weigh (a1 o a1_forms a1_paper a1_words a1_stock : Nat → Nat) (cB cI cJ cZ : ClassId) (s_a1 : S7) (s_o : S3) (s_a1_forms : S1) (s_a1_paper : S4) (s_a1_words : S10) : va_W := List.flatten [(gX7 a1 cB cI cJ cZ (a1_words 0) (a1_forms 0) (a1_paper 0) (a1_stock 0) s_a1), (gX3 o cB cI cJ cZ s_o), (gX1 a1_forms cB cI cJ cZ s_a1_forms), (gX4 a1_paper cB cI cJ cZ s_a1_paper), (gX10 a1_words cB cI cJ cZ s_a1_words)]
abbrev rm_X3_weigh : Room := { frames := 4, cells := 0, slots := 0, locals := 93 }
set_option maxHeartbeats 4000000 in
set_option maxRecDepth 100000 in
theorem c_X3_weigh (l : Launch) (D : gG) (cB cI cJ cZ : ClassId) (a1 o a1_forms a1_paper a1_words a1_stock : Nat → Nat) (s_a1 : S7) (s_o : S3) (s_a1_forms : S1) (s_a1_paper : S4) (s_a1_words : S10) (x2 : Int32) (x3 : Int32) (x4 : Int32) (r : S3) (hf : F_X3_weigh s_a1 s_o s_a1_forms s_a1_paper s_a1_words x2 x3 x4 = some r) : gM l D (tyL cB cI cJ cZ) yX3_weigh cX3_weigh 10 none rm_X3_weigh [.ref (o 0), .ref (a1 0), .int x2, .int x3, .int x4] (w_X3_weigh a1 o a1_forms a1_paper a1_words a1_stock cB cI cJ cZ s_a1 s_o s_a1_forms s_a1_paper s_a1_words) none (w_X3_weigh a1 o a1_forms a1_paper a1_words a1_stock cB cI cJ cZ s_a1 r s_a1_forms s_a1_paper s_a1_words) := by
  refine met_of (by decide) (Nat.le_of_ble_eq_true rfl) ?_
  intro p e s m args below meth c A cx hr hA
  show gW p l e rm_X3_weigh s m args below meth c D A 10 _ 0 0 _ [(0, .ref (o 0)), (1, .ref (a1 0)), (2, .int x2), (3, .int x3), (4, .int x4)] 0 []
  have h129 : ∀ (K22 : Int32 → Int32 → S3 → Option (S3)), (∀ (v5 : Int32) (v6 : Int32) (zs_o : S3), K22 v5 v6 zs_o = some r → gW p l e rm_X3_weigh s m args below meth c D A 10 (MQ below (QM D (tyL cB cI cJ cZ) none (w_X3_weigh a1 o a1_forms a1_paper a1_words a1_stock cB cI cJ cZ s_a1 s_o s_a1_forms s_a1_paper s_a1_words) (w_X3_weigh a1 o a1_forms a1_paper a1_words a1_stock cB cI cJ cZ s_a1 r s_a1_forms s_a1_paper s_a1_words) s.heap.size) args s 0 0 A) 0 0 (w_X3_weigh a1 o a1_forms a1_paper a1_words a1_stock cB cI cJ cZ s_a1 zs_o s_a1_forms s_a1_paper s_a1_words) [(0, .ref (o 0)), (1, .ref (a1 0)), (2, .int x2), (3, .int x3), (4, .int x4), (5, .int v5), (6, .int v6)] 22 []) → ∀ (v5 : Int32) (v6 : Int32) (v7 : Int32) (zs_o : S3), F_X3_weigh_b129 s_a1 s_a1_forms s_a1_paper s_a1_words x2 x3 x4 K22 v5 v6 v7 zs_o = some r → gW p l e rm_X3_weigh s m args below meth c D A 10 (MQ below (QM D (tyL cB cI cJ cZ) none (w_X3_weigh a1 o a1_forms a1_paper a1_words a1_stock cB cI cJ cZ s_a1 s_o s_a1_forms s_a1_paper s_a1_words) (w_X3_weigh a1 o a1_forms a1_paper a1_words a1_stock cB cI cJ cZ s_a1 r s_a1_forms s_a1_paper s_a1_words) s.heap.size) args s 0 0 A) 0 0 (w_X3_weigh a1 o a1_forms a1_paper a1_words a1_stock cB cI cJ cZ s_a1 zs_o s_a1_forms s_a1_paper s_a1_words) [(0, .ref (o 0)), (1, .ref (a1 0)), (2, .int x2), (3, .int x3), (4, .int x4), (5, .int v5), (6, .int v6), (7, .int v7)] 129 [] := by
    intro K22 kh22 v5 v6 v7 zs_o hf
    rw [F_X3_weigh_b129] at hf
    refine g_aln cx 0 dX3_weigh_129 rfl ?_
    refine fg_RX3_9 cx 2 rfl rfl dX3_weigh_130 ?_
    refine g_il cx 4 dX3_weigh_133 rfl ?_
    refine g_bp cx dX3_weigh_135 k_bp16 ?_
    refine g_imul cx dX3_weigh_137 ?_
    refine g_il cx 6 dX3_weigh_138 rfl ?_
    refine g_iadd cx dX3_weigh_140 ?_
    refine g_il cx 7 dX3_weigh_141 rfl ?_
    refine g_sp cx dX3_weigh_143 k_sp1000 ?_
    refine g_min cx mr_RX3_85 (Nat.le_of_ble_eq_true rfl) ⟨Nat.le_of_ble_eq_true rfl, Nat.le_of_ble_eq_true rfl⟩ dX3_weigh_146 ?_
    refine ob hf (fun q_1 hq_1 hf => ?_)
    refine g_callSv cx lk_RX3_60 (c_X6_set l D cB cI cJ cZ (o 1) 128 (s3_costs zs_o) ((x4 * 16) + v6) (if 1000 < v7 then 1000 else v7) q_1 hq_1) rfl [3] rfl rfl (ws' := (w_X3_weigh a1 o a1_forms a1_paper a1_words a1_stock cB cI cJ cZ s_a1 (u3_costs zs_o q_1) s_a1_forms s_a1_paper s_a1_words)) rfl rfl rfl (Nat.le_of_ble_eq_true rfl) ⟨rfl, rfl, Nat.le_of_ble_eq_true rfl, Nat.le_of_ble_eq_true rfl⟩ dX3_weigh_149 ?_
    refine g_inc cx (L2 := fun v6_2 => [(6, .int v6_2), (0, .ref (o 0)), (1, .ref (a1 0)), (2, .int x2), (3, .int x3), (4, .int x4), (5, .int v5), (7, .int v7)]) 6 hf dX3_weigh_152 rfl (k_inc1 _) (Nat.le_of_ble_eq_true rfl) (fun _ => rfl) (fun v6_2 hf => ?_)
    refine g_goto (tgt := 22) cx dX3_weigh_155 rfl ?_
    refine g_sub [1, 2, 3, 4, 5, 6, 0] rfl ?_
    exact kh22 _ _ _ hf
  have h126 : ∀ (K22 : Int32 → Int32 → S3 → Option (S3)), (∀ (v5 : Int32) (v6 : Int32) (zs_o : S3), K22 v5 v6 zs_o = some r → gW p l e rm_X3_weigh s m args below meth c D A 10 (MQ below (QM D (tyL cB cI cJ cZ) none (w_X3_weigh a1 o a1_forms a1_paper a1_words a1_stock cB cI cJ cZ s_a1 s_o s_a1_forms s_a1_paper s_a1_words) (w_X3_weigh a1 o a1_forms a1_paper a1_words a1_stock cB cI cJ cZ s_a1 r s_a1_forms s_a1_paper s_a1_words) s.heap.size) args s 0 0 A) 0 0 (w_X3_weigh a1 o a1_forms a1_paper a1_words a1_stock cB cI cJ cZ s_a1 zs_o s_a1_forms s_a1_paper s_a1_words) [(0, .ref (o 0)), (1, .ref (a1 0)), (2, .int x2), (3, .int x3), (4, .int x4), (5, .int v5), (6, .int v6)] 22 []) → ∀ (v5 : Int32) (v6 : Int32) (zs_o : S3) (k0 : Int32) (k1 : Int32), F_X3_weigh_b126 s_a1 s_a1_forms s_a1_paper s_a1_words x2 x3 x4 K22 v5 v6 zs_o k0 k1 = some r → gW p l e rm_X3_weigh s m args below meth c D A 10 (MQ below (QM D (tyL cB cI cJ cZ) none (w_X3_weigh a1 o a1_forms a1_paper a1_words a1_stock cB cI cJ cZ s_a1 s_o s_a1_forms s_a1_paper s_a1_words) (w_X3_weigh a1 o a1_forms a1_paper a1_words a1_stock cB cI cJ cZ s_a1 r s_a1_forms s_a1_paper s_a1_words) s.heap.size) args s 0 0 A) 0 0 (w_X3_weigh a1 o a1_forms a1_paper a1_words a1_stock cB cI cJ cZ s_a1 zs_o s_a1_forms s_a1_paper s_a1_words) [(0, .ref (o 0)), (1, .ref (a1 0)), (2, .int x2), (3, .int x3), (4, .int x4), (5, .int v5), (6, .int v6)] 126 [.int k1, .int k0] := by
    intro K22 kh22 v5 v6 zs_o k0 k1 hf
    rw [F_X3_weigh_b126] at hf
    refine g_iadd cx dX3_weigh_126 ?_
    refine g_is cx (L2 := fun v7_3 => [(7, .int v7_3), (0, .ref (o 0)), (1, .ref (a1 0)), (2, .int x2), (3, .int x3), (4, .int x4), (5, .int v5), (6, .int v6)]) hf dX3_weigh_127 (Nat.le_of_ble_eq_true rfl) (fun _ => rfl) (fun v7_3 hf => ?_)
    refine g_sub [1, 2, 3, 4, 5, 6, 7, 0] rfl ?_
    exact h129 _ kh22 _ _ _ _ hf
  have h103 : ∀ (K22 : Int32 → Int32 → S3 → Option (S3)), (∀ (v5 : Int32) (v6 : Int32) (zs_o : S3), K22 v5 v6 zs_o = some r → gW p l e rm_X3_weigh s m args below meth c D A 10 (MQ below (QM D (tyL cB cI cJ cZ) none (w_X3_weigh a1 o a1_forms a1_paper a1_words a1_stock cB cI cJ cZ s_a1 s_o s_a1_forms s_a1_paper s_a1_words) (w_X3_weigh a1 o a1_forms a1_paper a1_words a1_stock cB cI cJ cZ s_a1 r s_a1_forms s_a1_paper s_a1_words) s.heap.size) args s 0 0 A) 0 0 (w_X3_weigh a1 o a1_forms a1_paper a1_words a1_stock cB cI cJ cZ s_a1 zs_o s_a1_forms s_a1_paper s_a1_words) [(0, .ref (o 0)), (1, .ref (a1 0)), (2, .int x2), (3, .int x3), (4, .int x4), (5, .int v5), (6, .int v6)] 22 []) → ∀ (v5 : Int32) (v6 : Int32) (zs_o : S3) (k0 : Int32), F_X3_weigh_b103 s_a1 s_a1_forms s_a1_paper s_a1_words x2 x3 x4 K22 v5 v6 zs_o k0 = some r → gW p l e rm_X3_weigh s m args below meth c D A 10 (MQ below (QM D (tyL cB cI cJ cZ) none (w_X3_weigh a1 o a1_forms a1_paper a1_words a1_stock cB cI cJ cZ s_a1 s_o s_a1_forms s_a1_paper s_a1_words) (w_X3_weigh a1 o a1_forms a1_paper a1_words a1_stock cB cI cJ cZ s_a1 r s_a1_forms s_a1_paper s_a1_words) s.heap.size) args s 0 0 A) 0 0 (w_X3_weigh a1 o a1_forms a1_paper a1_words a1_stock cB cI cJ cZ s_a1 zs_o s_a1_forms s_a1_paper s_a1_words) [(0, .ref (o 0)), (1, .ref (a1 0)), (2, .int x2), (3, .int x3), (4, .int x4), (5, .int v5), (6, .int v6)] 103 [.int k0] := by
    intro K22 kh22 v5 v6 zs_o k0 hf
    rw [F_X3_weigh_b103] at hf
    refine g_is cx (L2 := fun v9_4 => [(9, .int v9_4), (0, .ref (o 0)), (1, .ref (a1 0)), (2, .int x2), (3, .int x3), (4, .int x4), (5, .int v5), (6, .int v6)]) hf dX3_weigh_103 (Nat.le_of_ble_eq_true rfl) (fun _ => rfl) (fun v9_4 hf => ?_)
    refine g_il cx 0 dX3_weigh_105 rfl ?_
    refine g_il cx 7 dX3_weigh_107 rfl ?_
    refine g_aln cx 2 dX3_weigh_109 rfl ?_
    refine fg_RX3_18 cx 0 rfl rfl dX3_weigh_110 ?_
    refine g_il cx 5 dX3_weigh_113 rfl ?_
    refine ob hf (fun q_5 hq_5 hf => ?_)
    refine g_callVGiR cx lk_RX3_66 (c_X4_wordAt l D cB cI cJ cZ a1_paper s_a1_paper x4 q_5 hq_5) rfl [3] rfl rfl (ci := 4) (q1 := 0) rfl rfl rfl (Nat.le_of_ble_eq_true rfl) ⟨rfl, rfl, Nat.le_of_ble_eq_true rfl, Nat.le_of_ble_eq_true rfl⟩ dX3_weigh_115 ?_
    refine g_ic_ne (tgt := 125) cx hf dX3_weigh_118 rfl (fun hf => ?_) (fun hf => ?_)
    · refine g_ic cx dX3_weigh_125 k_ic1 ?_
      refine g_sub [1, 2, 3, 4, 5, 6, 7] rfl ?_
      exact h126 _ kh22 _ _ _ _ _ hf
    · refine g_ic cx dX3_weigh_121 k_ic0 ?_
      refine g_goto (tgt := 126) cx dX3_weigh_122 rfl ?_
      refine g_sub [1, 2, 3, 4, 5, 6, 7] rfl ?_
      exact h126 _ kh22 _ _ _ _ _ hf
  have h73 : ∀ (K22 : Int32 → Int32 → S3 → Option (S3)), (∀ (v5 : Int32) (v6 : Int32) (zs_o : S3), K22 v5 v6 zs_o = some r → gW p l e rm_X3_weigh s m args below meth c D A 10 (MQ below (QM D (tyL cB cI cJ cZ) none (w_X3_weigh a1 o a1_forms a1_paper a1_words a1_stock cB cI cJ cZ s_a1 s_o s_a1_forms s_a1_paper s_a1_words) (w_X3_weigh a1 o a1_forms a1_paper a1_words a1_stock cB cI cJ cZ s_a1 r s_a1_forms s_a1_paper s_a1_words) s.heap.size) args s 0 0 A) 0 0 (w_X3_weigh a1 o a1_forms a1_paper a1_words a1_stock cB cI cJ cZ s_a1 zs_o s_a1_forms s_a1_paper s_a1_words) [(0, .ref (o 0)), (1, .ref (a1 0)), (2, .int x2), (3, .int x3), (4, .int x4), (5, .int v5), (6, .int v6)] 22 []) → ∀ (v5 : Int32) (v6 : Int32) (zs_o : S3) (k0 : Int32), F_X3_weigh_b73 s_a1 s_a1_forms s_a1_paper s_a1_words x2 x3 x4 K22 v5 v6 zs_o k0 = some r → gW p l e rm_X3_weigh s m args below meth c D A 10 (MQ below (QM D (tyL cB cI cJ cZ) none (w_X3_weigh a1 o a1_forms a1_paper a1_words a1_stock cB cI cJ cZ s_a1 s_o s_a1_forms s_a1_paper s_a1_words) (w_X3_weigh a1 o a1_forms a1_paper a1_words a1_stock cB cI cJ cZ s_a1 r s_a1_forms s_a1_paper s_a1_words) s.heap.size) args s 0 0 A) 0 0 (w_X3_weigh a1 o a1_forms a1_paper a1_words a1_stock cB cI cJ cZ s_a1 zs_o s_a1_forms s_a1_paper s_a1_words) [(0, .ref (o 0)), (1, .ref (a1 0)), (2, .int x2), (3, .int x3), (4, .int x4), (5, .int v5), (6, .int v6)] 73 [.int k0] := by
    intro K22 kh22 v5 v6 zs_o k0 hf
    rw [F_X3_weigh_b73] at hf
    refine g_is cx (L2 := fun v8_6 => [(8, .int v8_6), (0, .ref (o 0)), (1, .ref (a1 0)), (2, .int x2), (3, .int x3), (4, .int x4), (5, .int v5), (6, .int v6)]) hf dX3_weigh_73 (Nat.le_of_ble_eq_true rfl) (fun _ => rfl) (fun v8_6 hf => ?_)
    refine g_il cx 6 dX3_weigh_75 rfl ?_
    refine g_if_ge (tgt := 84) cx hf dX3_weigh_77 rfl (fun hf => ?_) (fun hf => ?_)
    · refine g_il cx 0 dX3_weigh_84 rfl ?_
      refine g_if_ge (tgt := 95) cx hf dX3_weigh_86 rfl (fun hf => ?_) (fun hf => ?_)
      · refine g_aln cx 1 dX3_weigh_95 rfl ?_
        refine g_il cx 6 dX3_weigh_96 rfl ?_
        refine g_il cx 0 dX3_weigh_98 rfl ?_
        refine ob hf (fun q_7 hq_7 hf => ?_)
        refine g_callVGiR cx lk_RX3_82 (c_X3_costAt l D cB cI cJ cZ o zs_o v5 v8_6 q_7 hq_7) rfl [1] rfl rfl (ci := 3) (q1 := 0) rfl rfl rfl (Nat.le_of_ble_eq_true rfl) ⟨rfl, rfl, Nat.le_of_ble_eq_true rfl, Nat.le_of_ble_eq_true rfl⟩ dX3_weigh_100 ?_
        refine g_sub [1, 2, 3, 4, 5, 6, 7] rfl ?_
        exact h103 _ kh22 _ _ _ _ hf
      · refine g_sp cx dX3_weigh_89 k_sp1000 ?_
        refine g_goto (tgt := 103) cx dX3_weigh_92 rfl ?_
        refine g_sub [1, 2, 3, 4, 5, 6, 7] rfl ?_
        exact h103 _ kh22 _ _ _ _ hf
    · refine g_ic cx dX3_weigh_80 k_ic0 ?_
      refine g_goto (tgt := 103) cx dX3_weigh_81 rfl ?_
      refine g_sub [1, 2, 3, 4, 5, 6, 7] rfl ?_
      exact h103 _ kh22 _ _ _ _ hf
  have h22 : ∀ (n : Nat) (v5 : Int32) (v6 : Int32) (zs_o : S3), F_X3_weigh_b22 s_a1 s_a1_forms s_a1_paper s_a1_words x2 x3 x4 n v5 v6 zs_o = some r → gW p l e rm_X3_weigh s m args below meth c D A 10 (MQ below (QM D (tyL cB cI cJ cZ) none (w_X3_weigh a1 o a1_forms a1_paper a1_words a1_stock cB cI cJ cZ s_a1 s_o s_a1_forms s_a1_paper s_a1_words) (w_X3_weigh a1 o a1_forms a1_paper a1_words a1_stock cB cI cJ cZ s_a1 r s_a1_forms s_a1_paper s_a1_words) s.heap.size) args s 0 0 A) 0 0 (w_X3_weigh a1 o a1_forms a1_paper a1_words a1_stock cB cI cJ cZ s_a1 zs_o s_a1_forms s_a1_paper s_a1_words) [(0, .ref (o 0)), (1, .ref (a1 0)), (2, .int x2), (3, .int x3), (4, .int x4), (5, .int v5), (6, .int v6)] 22 [] := by
    intro n
    induction n with
    | zero => intro v5 v6 zs_o hf; rw [F_X3_weigh_b22] at hf; cases hf
    | succ n ih =>
      intro v5 v6 zs_o hf
      rw [F_X3_weigh_b22] at hf
      refine g_il cx 6 dX3_weigh_22 rfl ?_
      refine g_aln cx 1 dX3_weigh_24 rfl ?_
      refine fg_RX3_48 cx 0 rfl rfl dX3_weigh_25 ?_
      refine ob hf (fun q_8 hq_8 hf => ?_)
      refine g_callVGiR cx lk_RX3_75 (c_X10_size l D cB cI cJ cZ a1_words s_a1_words q_8 hq_8) rfl [4] rfl rfl (ci := 8) (q1 := 0) rfl rfl rfl (Nat.le_of_ble_eq_true rfl) ⟨rfl, rfl, Nat.le_of_ble_eq_true rfl, Nat.le_of_ble_eq_true rfl⟩ dX3_weigh_28 ?_
      refine g_ic_ge (tgt := 158) cx hf dX3_weigh_31 rfl (fun hf => ?_) (fun hf => ?_)
      · exact g_vret (ovf := fun (r : S3) => none) (wf := fun (r : S3) => (w_X3_weigh a1 o a1_forms a1_paper a1_words a1_stock cB cI cJ cZ s_a1 r s_a1_forms s_a1_paper s_a1_words)) cx hA hr hf rfl rfl dX3_weigh_158
      · refine g_sp cx dX3_weigh_34 k_sp1000 ?_
        refine g_is cx (L2 := fun v7_9 => [(7, .int v7_9), (0, .ref (o 0)), (1, .ref (a1 0)), (2, .int x2), (3, .int x3), (4, .int x4), (5, .int v5), (6, .int v6)]) hf dX3_weigh_37 (Nat.le_of_ble_eq_true rfl) (fun _ => rfl) (fun v7_9 hf => ?_)
        refine g_aln cx 2 dX3_weigh_39 rfl ?_
        refine g_iln cx 3 dX3_weigh_40 rfl ?_
        refine g_il cx 5 dX3_weigh_41 rfl ?_
        refine g_il cx 7 dX3_weigh_43 rfl ?_
        refine ob hf (fun q_10 hq_10 hf => ?_)
        refine g_callSGiR cx lk_RX3_78 (c_X3_mayBecome l D cB cI cJ cZ a1 a1_forms a1_paper a1_words a1_stock s_a1 s_a1_forms s_a1_paper s_a1_words x2 x4 v6 q_10 hq_10) rfl [0, 2, 3, 4] rfl rfl rfl (Nat.le_of_ble_eq_true rfl) ⟨rfl, rfl, Nat.le_of_ble_eq_true rfl, Nat.le_of_ble_eq_true rfl⟩ dX3_weigh_45 ?_
        refine g_if_eq (tgt := 129) cx hf dX3_weigh_48 rfl (fun hf => ?_) (fun hf => ?_)
        · refine g_sub [1, 2, 3, 4, 5, 6, 7, 0] rfl ?_
          exact h129 _ ih _ _ _ _ hf
        · refine g_il cx 6 dX3_weigh_51 rfl ?_
          refine g_if_ge (tgt := 60) cx hf dX3_weigh_53 rfl (fun hf => ?_) (fun hf => ?_)
          · refine g_aln cx 1 dX3_weigh_60 rfl ?_
            refine g_aln cx 2 dX3_weigh_61 rfl ?_
            refine fg_RX3_48 cx 0 rfl rfl dX3_weigh_62 ?_
            refine g_iln cx 4 dX3_weigh_65 rfl ?_
            refine g_il cx 6 dX3_weigh_66 rfl ?_
            refine g_il cx 7 dX3_weigh_68 rfl ?_
            refine ob hf (fun q_11 hq_11 hf => ?_)
            refine g_callVGiR cx lk_RX3_56 (c_X3_best l D cB cI cJ cZ a1_words o s_a1_words zs_o x3 v5 v6 q_11 hq_11) rfl [4, 1] rfl rfl (ci := 3) (q1 := 4) rfl rfl rfl (Nat.le_of_ble_eq_true rfl) ⟨rfl, rfl, Nat.le_of_ble_eq_true rfl, Nat.le_of_ble_eq_true rfl⟩ dX3_weigh_70 ?_
            refine g_sub [1, 2, 3, 4, 5, 6, 7] rfl ?_
            exact h73 _ ih _ _ _ _ hf
          · refine g_ic cx dX3_weigh_56 k_icm1 ?_
            refine g_goto (tgt := 73) cx dX3_weigh_57 rfl ?_
            refine g_sub [1, 2, 3, 4, 5, 6, 7] rfl ?_
            exact h73 _ ih _ _ _ _ hf
  rw [F_X3_weigh] at hf
  refine g_aln cx 1 dX3_weigh_0 rfl ?_
  refine fg_RX3_30 cx 0 rfl rfl dX3_weigh_1 ?_
  refine g_iln cx 2 dX3_weigh_4 rfl ?_
  refine g_il cx 4 dX3_weigh_5 rfl ?_
  refine g_aln cx 1 dX3_weigh_7 rfl ?_
  refine fg_RX3_18 cx 0 rfl rfl dX3_weigh_8 ?_
  refine ob hf (fun q_12 hq_12 hf => ?_)
  refine g_callVGiR cx lk_RX3_24 (c_X4_size l D cB cI cJ cZ a1_paper s_a1_paper q_12 hq_12) rfl [3] rfl rfl (ci := 4) (q1 := 0) rfl rfl rfl (Nat.le_of_ble_eq_true rfl) ⟨rfl, rfl, Nat.le_of_ble_eq_true rfl, Nat.le_of_ble_eq_true rfl⟩ dX3_weigh_11 ?_
  refine ob hf (fun q_13 hq_13 hf => ?_)
  refine g_callVGiR cx lk_RX3_71 (c_X1_behind l D cB cI cJ cZ a1_forms s_a1_forms x2 x4 q_12 q_13 hq_13) rfl [2] rfl rfl (ci := 1) (q1 := 0) rfl rfl rfl (Nat.le_of_ble_eq_true rfl) ⟨rfl, rfl, Nat.le_of_ble_eq_true rfl, Nat.le_of_ble_eq_true rfl⟩ dX3_weigh_14 ?_
  refine g_is cx (L2 := fun v5_14 => [(5, .int v5_14), (0, .ref (o 0)), (1, .ref (a1 0)), (2, .int x2), (3, .int x3), (4, .int x4)]) hf dX3_weigh_17 (Nat.le_of_ble_eq_true rfl) (fun _ => rfl) (fun v5_14 hf => ?_)
  refine g_ic cx dX3_weigh_19 k_ic0 ?_
  refine g_is cx (L2 := fun v6_15 => [(6, .int v6_15), (5, .int v5_14), (0, .ref (o 0)), (1, .ref (a1 0)), (2, .int x2), (3, .int x3), (4, .int x4)]) hf dX3_weigh_20 (Nat.le_of_ble_eq_true rfl) (fun _ => rfl) (fun v6_15 hf => ?_)
  refine g_sub [2, 3, 4, 5, 6, 1, 0] rfl ?_
  exact h22 fu _ _ _ hf
theorem dX3_wordAt_0 : decode cX3_wordAt 0 = .ok (.aload_n 0, 1) := by decide +kernel
theorem dX3_wordAt_1 : decode cX3_wordAt 1 = .ok (.getfield 15, 3) := by decide +kernel
theorem dX3_wordAt_4 : decode cX3_wordAt 4 = .ok (.iload_n 1, 1) := by decide +kernel
theorem dX3_wordAt_5 : decode cX3_wordAt 5 = .ok (.invokestatic 67, 3) := by decide +kernel
theorem dX3_wordAt_8 : decode cX3_wordAt 8 = .ok (.ireturn, 1) := by decide +kernel
theorem q1_107 : Cond.fieldLink RX3 15 "RhymeLaw$Mending" "row" "[I" ∈ TT := tq1 107 rfl rfl
theorem fg_RX3_15 {p : Program} {l : Launch} {e : Env} {R : Room} {s : State} {m : MethodId} {args : Array Value} {below : List Frame} {meth : Method} {c : Code} {D : gG} {tys : List (ClassId × FieldType)} {A : Nat → Prop} {nL : Nat} {Q : State → Prop} {cells slots : Nat} {cc : ByteArray} {ws : va_W} {L : List (Nat × Value)} {pc : Nat} {stk : List Value} (cx : gX p s m args meth c cc nL RX3 D tys A) {a : Nat} {fs : List Value} {v : Value} (q0 : Nat) (he : ws[q0]? = some (a, .inr (3, fs))) (hv : fs[1]? = some v) (hd : decode cc pc = .ok (.getfield 15, 3)) (kk : gW p l e R s m args below meth c D A nL Q cells slots ws L (pc + 3) (v :: stk)) : gW p l e R s m args below meth c D A nL Q cells slots ws L pc (.ref a :: stk) :=
  g_get cx (C := RX3) (T := TX3) (N := 2) inT3 rfl 1 (Nat.le_of_ble_eq_true rfl) q1_107 rfl q0 he hv hd kk
def F_X3_wordAt (s_o : S3) (x1 : Int32) : Option (Int32) := (F_X6_at 8 (s3_row s_o) x1).bind fun q_1 => some (q_1)
def w_X3_wordAt (o : Nat → Nat) (cB cI cJ cZ : ClassId) (s_o : S3) : va_W := List.flatten [(gX3 o cB cI cJ cZ s_o)]
abbrev rm_X3_wordAt : Room := { frames := 1, cells := 0, slots := 0, locals := 21 }
set_option maxHeartbeats 4000000 in
set_option maxRecDepth 100000 in
theorem c_X3_wordAt (l : Launch) (D : gG) (cB cI cJ cZ : ClassId) (o : Nat → Nat) (s_o : S3) (x1 : Int32) (r : Int32) (hf : F_X3_wordAt s_o x1 = some r) : gM l D (tyL cB cI cJ cZ) yX3_wordAt cX3_wordAt 2 (some .int) rm_X3_wordAt [.ref (o 0), .int x1] (w_X3_wordAt o cB cI cJ cZ s_o) (some (.int r)) (w_X3_wordAt o cB cI cJ cZ s_o) := by
  refine met_of (by decide) (Nat.le_of_ble_eq_true rfl) ?_
  intro p e s m args below meth c A cx hr hA
  show gW p l e rm_X3_wordAt s m args below meth c D A 2 _ 0 0 _ [(0, .ref (o 0)), (1, .int x1)] 0 []
  rw [F_X3_wordAt] at hf
  refine g_aln cx 0 dX3_wordAt_0 rfl ?_
  refine fg_RX3_15 cx 0 rfl rfl dX3_wordAt_1 ?_
  refine g_iln cx 1 dX3_wordAt_4 rfl ?_
  refine ob hf (fun q_1 hq_1 hf => ?_)
  refine g_callSiR cx lk_RX3_67 (c_X6_at l D cB cI cJ cZ (o 2) 8 (s3_row s_o) x1 q_1 hq_1) rfl [2] rfl rfl rfl (Nat.le_of_ble_eq_true rfl) ⟨rfl, rfl, Nat.le_of_ble_eq_true rfl, Nat.le_of_ble_eq_true rfl⟩ dX3_wordAt_5 ?_
  exact g_iret (ovf := fun (r : Int32) => (some (.int r))) (wf := fun (r : Int32) => (w_X3_wordAt o cB cI cJ cZ s_o)) cx hA hr hf rfl rfl dX3_wordAt_8
def tX3_mend_9 : List Nat := 96 :: 54 :: 5 :: 132 :: 6 :: 1 :: 167 :: 255 :: 163 :: 21 :: 5 :: 172 :: []
def tX3_mend_8 : List Nat := 180 :: 0 :: 18 :: 21 :: 6 :: 182 :: 0 :: 66 :: 160 :: 0 :: 7 :: 3 :: 167 :: 0 :: 4 :: 4 :: tX3_mend_9
def tX3_mend_7 : List Nat := 42 :: 180 :: 0 :: 15 :: 21 :: 6 :: 21 :: 8 :: 184 :: 0 :: 60 :: 21 :: 5 :: 21 :: 8 :: 43 :: tX3_mend_8
def tX3_mend_6 : List Nat := 182 :: 0 :: 52 :: 182 :: 0 :: 56 :: 54 :: 8 :: 21 :: 8 :: 156 :: 0 :: 6 :: 16 :: 247 :: 172 :: tX3_mend_7
def tX3_mend_5 : List Nat := 48 :: 29 :: 21 :: 6 :: 21 :: 7 :: 156 :: 0 :: 7 :: 2 :: 167 :: 0 :: 9 :: 42 :: 21 :: 7 :: tX3_mend_6
def tX3_mend_4 : List Nat := 43 :: 180 :: 0 :: 30 :: 28 :: 21 :: 6 :: 182 :: 0 :: 44 :: 54 :: 7 :: 42 :: 43 :: 180 :: 0 :: tX3_mend_5
def tX3_mend_3 : List Nat := 167 :: 255 :: 239 :: 3 :: 54 :: 5 :: 3 :: 54 :: 6 :: 21 :: 6 :: 21 :: 4 :: 162 :: 0 :: 92 :: tX3_mend_4
def tX3_mend_2 : List Nat := 5 :: 155 :: 0 :: 18 :: 42 :: 43 :: 28 :: 29 :: 21 :: 5 :: 182 :: 0 :: 40 :: 132 :: 5 :: 255 :: tX3_mend_3
def tX3_mend_1 : List Nat := 182 :: 0 :: 34 :: 154 :: 0 :: 6 :: 16 :: 247 :: 172 :: 21 :: 4 :: 4 :: 100 :: 54 :: 5 :: 21 :: tX3_mend_2
def tX3_mend_0 : List Nat := 43 :: 180 :: 0 :: 18 :: 182 :: 0 :: 24 :: 54 :: 4 :: 43 :: 180 :: 0 :: 30 :: 28 :: 21 :: 4 :: tX3_mend_1
theorem tX3_mendf_0 : (cX3_mend.data.toList.map UInt8.toNat).drop 0 = tX3_mend_0 := by decide +kernel
theorem tX3_mendf_1 : (cX3_mend.data.toList.map UInt8.toNat).drop 16 = tX3_mend_1 := fd_next (k := 0) tX3_mendf_0 rfl
theorem tX3_mendf_2 : (cX3_mend.data.toList.map UInt8.toNat).drop 32 = tX3_mend_2 := fd_next (k := 16) tX3_mendf_1 rfl
theorem tX3_mendf_3 : (cX3_mend.data.toList.map UInt8.toNat).drop 48 = tX3_mend_3 := fd_next (k := 32) tX3_mendf_2 rfl
theorem tX3_mendf_4 : (cX3_mend.data.toList.map UInt8.toNat).drop 64 = tX3_mend_4 := fd_next (k := 48) tX3_mendf_3 rfl
theorem tX3_mendf_5 : (cX3_mend.data.toList.map UInt8.toNat).drop 80 = tX3_mend_5 := fd_next (k := 64) tX3_mendf_4 rfl
theorem tX3_mendf_6 : (cX3_mend.data.toList.map UInt8.toNat).drop 96 = tX3_mend_6 := fd_next (k := 80) tX3_mendf_5 rfl
theorem tX3_mendf_7 : (cX3_mend.data.toList.map UInt8.toNat).drop 112 = tX3_mend_7 := fd_next (k := 96) tX3_mendf_6 rfl
theorem tX3_mendf_8 : (cX3_mend.data.toList.map UInt8.toNat).drop 128 = tX3_mend_8 := fd_next (k := 112) tX3_mendf_7 rfl
theorem tX3_mendf_9 : (cX3_mend.data.toList.map UInt8.toNat).drop 144 = tX3_mend_9 := fd_next (k := 128) tX3_mendf_8 rfl
theorem dX3_mend_0 : decode cX3_mend 0 = .ok (.aload_n 1, 1) := dk_43 (fdB_of (k := 0) tX3_mendf_0 0 43 rfl)
theorem dX3_mend_1 : decode cX3_mend 1 = .ok (.getfield 18, 3) := dk_180 (fdB_of (k := 0) tX3_mendf_0 1 180 rfl) (fdB_of (k := 0) tX3_mendf_0 2 0 rfl) (fdB_of (k := 0) tX3_mendf_0 3 18 rfl)
theorem dX3_mend_4 : decode cX3_mend 4 = .ok (.invokevirtual 24, 3) := dk_182 (fdB_of (k := 0) tX3_mendf_0 4 182 rfl) (fdB_of (k := 0) tX3_mendf_0 5 0 rfl) (fdB_of (k := 0) tX3_mendf_0 6 24 rfl)
theorem dX3_mend_7 : decode cX3_mend 7 = .ok (.istore 4, 2) := dk_54 (fdB_of (k := 0) tX3_mendf_0 7 54 rfl) (fdB_of (k := 0) tX3_mendf_0 8 4 rfl)
theorem dX3_mend_9 : decode cX3_mend 9 = .ok (.aload_n 1, 1) := dk_43 (fdB_of (k := 0) tX3_mendf_0 9 43 rfl)
theorem dX3_mend_10 : decode cX3_mend 10 = .ok (.getfield 30, 3) := dk_180 (fdB_of (k := 0) tX3_mendf_0 10 180 rfl) (fdB_of (k := 0) tX3_mendf_0 11 0 rfl) (fdB_of (k := 0) tX3_mendf_0 12 30 rfl)
theorem dX3_mend_13 : decode cX3_mend 13 = .ok (.iload_n 2, 1) := dk_28 (fdB_of (k := 0) tX3_mendf_0 13 28 rfl)
theorem dX3_mend_14 : decode cX3_mend 14 = .ok (.iload 4, 2) := dk_21 (fdB_of (k := 0) tX3_mendf_0 14 21 rfl) (fdB_of (k := 0) tX3_mendf_0 15 4 rfl)
theorem dX3_mend_16 : decode cX3_mend 16 = .ok (.invokevirtual 34, 3) := dk_182 (fdB_of (k := 16) tX3_mendf_1 0 182 rfl) (fdB_of (k := 16) tX3_mendf_1 1 0 rfl) (fdB_of (k := 16) tX3_mendf_1 2 34 rfl)
theorem dX3_mend_19 : decode cX3_mend 19 = .ok (.ifCond .ne 6, 3) := dk_154 (fdB_of (k := 16) tX3_mendf_1 3 154 rfl) (fdB_of (k := 16) tX3_mendf_1 4 0 rfl) (fdB_of (k := 16) tX3_mendf_1 5 6 rfl) (by decide +kernel)
theorem dX3_mend_22 : decode cX3_mend 22 = .ok (.bipush (-9), 2) := dk_16 (fdB_of (k := 16) tX3_mendf_1 6 16 rfl) (fdB_of (k := 16) tX3_mendf_1 7 247 rfl) (by decide +kernel)
theorem dX3_mend_24 : decode cX3_mend 24 = .ok (.ireturn, 1) := dk_172 (fdB_of (k := 16) tX3_mendf_1 8 172 rfl)
theorem dX3_mend_25 : decode cX3_mend 25 = .ok (.iload 4, 2) := dk_21 (fdB_of (k := 16) tX3_mendf_1 9 21 rfl) (fdB_of (k := 16) tX3_mendf_1 10 4 rfl)
theorem dX3_mend_27 : decode cX3_mend 27 = .ok (.iconst 1, 1) := dk_4 (fdB_of (k := 16) tX3_mendf_1 11 4 rfl)
theorem dX3_mend_28 : decode cX3_mend 28 = .ok (.isub, 1) := dk_100 (fdB_of (k := 16) tX3_mendf_1 12 100 rfl)
theorem dX3_mend_29 : decode cX3_mend 29 = .ok (.istore 5, 2) := dk_54 (fdB_of (k := 16) tX3_mendf_1 13 54 rfl) (fdB_of (k := 16) tX3_mendf_1 14 5 rfl)
theorem dX3_mend_31 : decode cX3_mend 31 = .ok (.iload 5, 2) := dk_21 (fdB_of (k := 16) tX3_mendf_1 15 21 rfl) (fdB_of (k := 32) tX3_mendf_2 0 5 rfl)
theorem dX3_mend_33 : decode cX3_mend 33 = .ok (.ifCond .lt 18, 3) := dk_155 (fdB_of (k := 32) tX3_mendf_2 1 155 rfl) (fdB_of (k := 32) tX3_mendf_2 2 0 rfl) (fdB_of (k := 32) tX3_mendf_2 3 18 rfl) (by decide +kernel)
theorem dX3_mend_36 : decode cX3_mend 36 = .ok (.aload_n 0, 1) := dk_42 (fdB_of (k := 32) tX3_mendf_2 4 42 rfl)
theorem dX3_mend_37 : decode cX3_mend 37 = .ok (.aload_n 1, 1) := dk_43 (fdB_of (k := 32) tX3_mendf_2 5 43 rfl)
theorem dX3_mend_38 : decode cX3_mend 38 = .ok (.iload_n 2, 1) := dk_28 (fdB_of (k := 32) tX3_mendf_2 6 28 rfl)
theorem dX3_mend_39 : decode cX3_mend 39 = .ok (.iload_n 3, 1) := dk_29 (fdB_of (k := 32) tX3_mendf_2 7 29 rfl)
theorem dX3_mend_40 : decode cX3_mend 40 = .ok (.iload 5, 2) := dk_21 (fdB_of (k := 32) tX3_mendf_2 8 21 rfl) (fdB_of (k := 32) tX3_mendf_2 9 5 rfl)
theorem dX3_mend_42 : decode cX3_mend 42 = .ok (.invokevirtual 40, 3) := dk_182 (fdB_of (k := 32) tX3_mendf_2 10 182 rfl) (fdB_of (k := 32) tX3_mendf_2 11 0 rfl) (fdB_of (k := 32) tX3_mendf_2 12 40 rfl)
theorem dX3_mend_45 : decode cX3_mend 45 = .ok (.iinc 5 (-1), 3) := dk_132 (fdB_of (k := 32) tX3_mendf_2 13 132 rfl) (fdB_of (k := 32) tX3_mendf_2 14 5 rfl) (fdB_of (k := 32) tX3_mendf_2 15 255 rfl) (by decide +kernel)
theorem dX3_mend_48 : decode cX3_mend 48 = .ok (.goto (-17), 3) := dk_167 (fdB_of (k := 48) tX3_mendf_3 0 167 rfl) (fdB_of (k := 48) tX3_mendf_3 1 255 rfl) (fdB_of (k := 48) tX3_mendf_3 2 239 rfl) (by decide +kernel)
theorem dX3_mend_51 : decode cX3_mend 51 = .ok (.iconst 0, 1) := dk_3 (fdB_of (k := 48) tX3_mendf_3 3 3 rfl)
theorem dX3_mend_52 : decode cX3_mend 52 = .ok (.istore 5, 2) := dk_54 (fdB_of (k := 48) tX3_mendf_3 4 54 rfl) (fdB_of (k := 48) tX3_mendf_3 5 5 rfl)
theorem dX3_mend_54 : decode cX3_mend 54 = .ok (.iconst 0, 1) := dk_3 (fdB_of (k := 48) tX3_mendf_3 6 3 rfl)
theorem dX3_mend_55 : decode cX3_mend 55 = .ok (.istore 6, 2) := dk_54 (fdB_of (k := 48) tX3_mendf_3 7 54 rfl) (fdB_of (k := 48) tX3_mendf_3 8 6 rfl)
theorem dX3_mend_57 : decode cX3_mend 57 = .ok (.iload 6, 2) := dk_21 (fdB_of (k := 48) tX3_mendf_3 9 21 rfl) (fdB_of (k := 48) tX3_mendf_3 10 6 rfl)
theorem dX3_mend_59 : decode cX3_mend 59 = .ok (.iload 4, 2) := dk_21 (fdB_of (k := 48) tX3_mendf_3 11 21 rfl) (fdB_of (k := 48) tX3_mendf_3 12 4 rfl)
theorem dX3_mend_61 : decode cX3_mend 61 = .ok (.if_icmp .ge 92, 3) := dk_162 (fdB_of (k := 48) tX3_mendf_3 13 162 rfl) (fdB_of (k := 48) tX3_mendf_3 14 0 rfl) (fdB_of (k := 48) tX3_mendf_3 15 92 rfl) (by decide +kernel)
theorem dX3_mend_64 : decode cX3_mend 64 = .ok (.aload_n 1, 1) := dk_43 (fdB_of (k := 64) tX3_mendf_4 0 43 rfl)
theorem dX3_mend_65 : decode cX3_mend 65 = .ok (.getfield 30, 3) := dk_180 (fdB_of (k := 64) tX3_mendf_4 1 180 rfl) (fdB_of (k := 64) tX3_mendf_4 2 0 rfl) (fdB_of (k := 64) tX3_mendf_4 3 30 rfl)
theorem dX3_mend_68 : decode cX3_mend 68 = .ok (.iload_n 2, 1) := dk_28 (fdB_of (k := 64) tX3_mendf_4 4 28 rfl)
theorem dX3_mend_69 : decode cX3_mend 69 = .ok (.iload 6, 2) := dk_21 (fdB_of (k := 64) tX3_mendf_4 5 21 rfl) (fdB_of (k := 64) tX3_mendf_4 6 6 rfl)
theorem dX3_mend_71 : decode cX3_mend 71 = .ok (.invokevirtual 44, 3) := dk_182 (fdB_of (k := 64) tX3_mendf_4 7 182 rfl) (fdB_of (k := 64) tX3_mendf_4 8 0 rfl) (fdB_of (k := 64) tX3_mendf_4 9 44 rfl)
theorem dX3_mend_74 : decode cX3_mend 74 = .ok (.istore 7, 2) := dk_54 (fdB_of (k := 64) tX3_mendf_4 10 54 rfl) (fdB_of (k := 64) tX3_mendf_4 11 7 rfl)
theorem dX3_mend_76 : decode cX3_mend 76 = .ok (.aload_n 0, 1) := dk_42 (fdB_of (k := 64) tX3_mendf_4 12 42 rfl)
theorem dX3_mend_77 : decode cX3_mend 77 = .ok (.aload_n 1, 1) := dk_43 (fdB_of (k := 64) tX3_mendf_4 13 43 rfl)
theorem dX3_mend_78 : decode cX3_mend 78 = .ok (.getfield 48, 3) := dk_180 (fdB_of (k := 64) tX3_mendf_4 14 180 rfl) (fdB_of (k := 64) tX3_mendf_4 15 0 rfl) (fdB_of (k := 80) tX3_mendf_5 0 48 rfl)
theorem dX3_mend_81 : decode cX3_mend 81 = .ok (.iload_n 3, 1) := dk_29 (fdB_of (k := 80) tX3_mendf_5 1 29 rfl)
theorem dX3_mend_82 : decode cX3_mend 82 = .ok (.iload 6, 2) := dk_21 (fdB_of (k := 80) tX3_mendf_5 2 21 rfl) (fdB_of (k := 80) tX3_mendf_5 3 6 rfl)
theorem dX3_mend_84 : decode cX3_mend 84 = .ok (.iload 7, 2) := dk_21 (fdB_of (k := 80) tX3_mendf_5 4 21 rfl) (fdB_of (k := 80) tX3_mendf_5 5 7 rfl)
theorem dX3_mend_86 : decode cX3_mend 86 = .ok (.ifCond .ge 7, 3) := dk_156 (fdB_of (k := 80) tX3_mendf_5 6 156 rfl) (fdB_of (k := 80) tX3_mendf_5 7 0 rfl) (fdB_of (k := 80) tX3_mendf_5 8 7 rfl) (by decide +kernel)
theorem dX3_mend_89 : decode cX3_mend 89 = .ok (.iconst (-1), 1) := dk_2 (fdB_of (k := 80) tX3_mendf_5 9 2 rfl)
theorem dX3_mend_90 : decode cX3_mend 90 = .ok (.goto 9, 3) := dk_167 (fdB_of (k := 80) tX3_mendf_5 10 167 rfl) (fdB_of (k := 80) tX3_mendf_5 11 0 rfl) (fdB_of (k := 80) tX3_mendf_5 12 9 rfl) (by decide +kernel)
theorem dX3_mend_93 : decode cX3_mend 93 = .ok (.aload_n 0, 1) := dk_42 (fdB_of (k := 80) tX3_mendf_5 13 42 rfl)
theorem dX3_mend_94 : decode cX3_mend 94 = .ok (.iload 7, 2) := dk_21 (fdB_of (k := 80) tX3_mendf_5 14 21 rfl) (fdB_of (k := 80) tX3_mendf_5 15 7 rfl)
theorem dX3_mend_96 : decode cX3_mend 96 = .ok (.invokevirtual 52, 3) := dk_182 (fdB_of (k := 96) tX3_mendf_6 0 182 rfl) (fdB_of (k := 96) tX3_mendf_6 1 0 rfl) (fdB_of (k := 96) tX3_mendf_6 2 52 rfl)
theorem dX3_mend_99 : decode cX3_mend 99 = .ok (.invokevirtual 56, 3) := dk_182 (fdB_of (k := 96) tX3_mendf_6 3 182 rfl) (fdB_of (k := 96) tX3_mendf_6 4 0 rfl) (fdB_of (k := 96) tX3_mendf_6 5 56 rfl)
theorem dX3_mend_102 : decode cX3_mend 102 = .ok (.istore 8, 2) := dk_54 (fdB_of (k := 96) tX3_mendf_6 6 54 rfl) (fdB_of (k := 96) tX3_mendf_6 7 8 rfl)
theorem dX3_mend_104 : decode cX3_mend 104 = .ok (.iload 8, 2) := dk_21 (fdB_of (k := 96) tX3_mendf_6 8 21 rfl) (fdB_of (k := 96) tX3_mendf_6 9 8 rfl)
theorem dX3_mend_106 : decode cX3_mend 106 = .ok (.ifCond .ge 6, 3) := dk_156 (fdB_of (k := 96) tX3_mendf_6 10 156 rfl) (fdB_of (k := 96) tX3_mendf_6 11 0 rfl) (fdB_of (k := 96) tX3_mendf_6 12 6 rfl) (by decide +kernel)
theorem dX3_mend_109 : decode cX3_mend 109 = .ok (.bipush (-9), 2) := dk_16 (fdB_of (k := 96) tX3_mendf_6 13 16 rfl) (fdB_of (k := 96) tX3_mendf_6 14 247 rfl) (by decide +kernel)
theorem dX3_mend_111 : decode cX3_mend 111 = .ok (.ireturn, 1) := dk_172 (fdB_of (k := 96) tX3_mendf_6 15 172 rfl)
theorem dX3_mend_112 : decode cX3_mend 112 = .ok (.aload_n 0, 1) := dk_42 (fdB_of (k := 112) tX3_mendf_7 0 42 rfl)
theorem dX3_mend_113 : decode cX3_mend 113 = .ok (.getfield 15, 3) := dk_180 (fdB_of (k := 112) tX3_mendf_7 1 180 rfl) (fdB_of (k := 112) tX3_mendf_7 2 0 rfl) (fdB_of (k := 112) tX3_mendf_7 3 15 rfl)
theorem dX3_mend_116 : decode cX3_mend 116 = .ok (.iload 6, 2) := dk_21 (fdB_of (k := 112) tX3_mendf_7 4 21 rfl) (fdB_of (k := 112) tX3_mendf_7 5 6 rfl)
theorem dX3_mend_118 : decode cX3_mend 118 = .ok (.iload 8, 2) := dk_21 (fdB_of (k := 112) tX3_mendf_7 6 21 rfl) (fdB_of (k := 112) tX3_mendf_7 7 8 rfl)
theorem dX3_mend_120 : decode cX3_mend 120 = .ok (.invokestatic 60, 3) := dk_184 (fdB_of (k := 112) tX3_mendf_7 8 184 rfl) (fdB_of (k := 112) tX3_mendf_7 9 0 rfl) (fdB_of (k := 112) tX3_mendf_7 10 60 rfl)
theorem dX3_mend_123 : decode cX3_mend 123 = .ok (.iload 5, 2) := dk_21 (fdB_of (k := 112) tX3_mendf_7 11 21 rfl) (fdB_of (k := 112) tX3_mendf_7 12 5 rfl)
theorem dX3_mend_125 : decode cX3_mend 125 = .ok (.iload 8, 2) := dk_21 (fdB_of (k := 112) tX3_mendf_7 13 21 rfl) (fdB_of (k := 112) tX3_mendf_7 14 8 rfl)
theorem dX3_mend_127 : decode cX3_mend 127 = .ok (.aload_n 1, 1) := dk_43 (fdB_of (k := 112) tX3_mendf_7 15 43 rfl)
theorem dX3_mend_128 : decode cX3_mend 128 = .ok (.getfield 18, 3) := dk_180 (fdB_of (k := 128) tX3_mendf_8 0 180 rfl) (fdB_of (k := 128) tX3_mendf_8 1 0 rfl) (fdB_of (k := 128) tX3_mendf_8 2 18 rfl)
theorem dX3_mend_131 : decode cX3_mend 131 = .ok (.iload 6, 2) := dk_21 (fdB_of (k := 128) tX3_mendf_8 3 21 rfl) (fdB_of (k := 128) tX3_mendf_8 4 6 rfl)
theorem dX3_mend_133 : decode cX3_mend 133 = .ok (.invokevirtual 66, 3) := dk_182 (fdB_of (k := 128) tX3_mendf_8 5 182 rfl) (fdB_of (k := 128) tX3_mendf_8 6 0 rfl) (fdB_of (k := 128) tX3_mendf_8 7 66 rfl)
theorem dX3_mend_136 : decode cX3_mend 136 = .ok (.if_icmp .ne 7, 3) := dk_160 (fdB_of (k := 128) tX3_mendf_8 8 160 rfl) (fdB_of (k := 128) tX3_mendf_8 9 0 rfl) (fdB_of (k := 128) tX3_mendf_8 10 7 rfl) (by decide +kernel)
theorem dX3_mend_139 : decode cX3_mend 139 = .ok (.iconst 0, 1) := dk_3 (fdB_of (k := 128) tX3_mendf_8 11 3 rfl)
theorem dX3_mend_140 : decode cX3_mend 140 = .ok (.goto 4, 3) := dk_167 (fdB_of (k := 128) tX3_mendf_8 12 167 rfl) (fdB_of (k := 128) tX3_mendf_8 13 0 rfl) (fdB_of (k := 128) tX3_mendf_8 14 4 rfl) (by decide +kernel)
theorem dX3_mend_143 : decode cX3_mend 143 = .ok (.iconst 1, 1) := dk_4 (fdB_of (k := 128) tX3_mendf_8 15 4 rfl)
theorem dX3_mend_144 : decode cX3_mend 144 = .ok (.iadd, 1) := dk_96 (fdB_of (k := 144) tX3_mendf_9 0 96 rfl)
theorem dX3_mend_145 : decode cX3_mend 145 = .ok (.istore 5, 2) := dk_54 (fdB_of (k := 144) tX3_mendf_9 1 54 rfl) (fdB_of (k := 144) tX3_mendf_9 2 5 rfl)
theorem dX3_mend_147 : decode cX3_mend 147 = .ok (.iinc 6 1, 3) := dk_132 (fdB_of (k := 144) tX3_mendf_9 3 132 rfl) (fdB_of (k := 144) tX3_mendf_9 4 6 rfl) (fdB_of (k := 144) tX3_mendf_9 5 1 rfl) (by decide +kernel)
theorem dX3_mend_150 : decode cX3_mend 150 = .ok (.goto (-93), 3) := dk_167 (fdB_of (k := 144) tX3_mendf_9 6 167 rfl) (fdB_of (k := 144) tX3_mendf_9 7 255 rfl) (fdB_of (k := 144) tX3_mendf_9 8 163 rfl) (by decide +kernel)
theorem dX3_mend_153 : decode cX3_mend 153 = .ok (.iload 5, 2) := dk_21 (fdB_of (k := 144) tX3_mendf_9 9 21 rfl) (fdB_of (k := 144) tX3_mendf_9 10 5 rfl)
theorem dX3_mend_155 : decode cX3_mend 155 = .ok (.ireturn, 1) := dk_172 (fdB_of (k := 144) tX3_mendf_9 11 172 rfl)

theorem q0_7 : Cond.selects RX3 yX3_weigh yX3_weigh ∈ TT := tq0 7 rfl rfl
theorem q3_229 : Cond.methodLink RX3 34 yX1_pairs ∈ TT := tq3 229 rfl rfl
theorem q3_230 : Cond.instanceMethod yX1_pairs ∈ TT := tq3 230 rfl rfl
theorem q3_231 : Cond.selects RX1 yX1_pairs yX1_pairs ∈ TT := tq3 231 rfl rfl
theorem q3_232 : Cond.code yX1_pairs cX1_pairs 4 (some .boolean) ∈ TT := tq3 232 rfl rfl
theorem q4_2 : Cond.methodLink RX3 40 yX3_weigh ∈ TT := tq4 2 rfl rfl
theorem q4_4 : Cond.instanceMethod yX3_weigh ∈ TT := tq4 4 rfl rfl
theorem q4_5 : Cond.code yX3_weigh cX3_weigh 10 none ∈ TT := tq4 5 rfl rfl
theorem q4_28 : Cond.methodLink RX3 44 yX1_ahead ∈ TT := tq4 28 rfl rfl
theorem q4_29 : Cond.methodLink RX3 52 yX3_wordAt ∈ TT := tq4 29 rfl rfl
theorem q4_30 : Cond.instanceMethod yX3_wordAt ∈ TT := tq4 30 rfl rfl
theorem q4_31 : Cond.selects RX3 yX3_wordAt yX3_wordAt ∈ TT := tq4 31 rfl rfl
theorem q4_32 : Cond.code yX3_wordAt cX3_wordAt 2 (some .int) ∈ TT := tq4 32 rfl rfl
theorem lk_RX3_44 : vlk RX3 44 yX1_ahead cX1_ahead 4 (some .int) 2 := ⟨List.forall_mem_cons.mpr ⟨q4_28, List.forall_mem_cons.mpr ⟨q3_234, List.forall_mem_cons.mpr ⟨q3_235, List.forall_mem_cons.mpr ⟨q1_11, fun _ h => absurd h List.not_mem_nil⟩⟩⟩⟩, q3_236, by decide, by decide, by decide +kernel⟩
theorem lk_RX3_52 : vlk RX3 52 yX3_wordAt cX3_wordAt 2 (some .int) 1 := ⟨List.forall_mem_cons.mpr ⟨q4_29, List.forall_mem_cons.mpr ⟨q4_30, List.forall_mem_cons.mpr ⟨q4_31, List.forall_mem_cons.mpr ⟨q1_6, fun _ h => absurd h List.not_mem_nil⟩⟩⟩⟩, q4_32, by decide, by decide, by decide +kernel⟩
theorem lk_RX3_40 : vlk RX3 40 yX3_weigh cX3_weigh 10 none 4 := ⟨List.forall_mem_cons.mpr ⟨q4_2, List.forall_mem_cons.mpr ⟨q4_4, List.forall_mem_cons.mpr ⟨q0_7, List.forall_mem_cons.mpr ⟨q1_6, fun _ h => absurd h List.not_mem_nil⟩⟩⟩⟩, q4_5, by decide, by decide, by decide +kernel⟩
theorem lk_RX3_34 : vlk RX3 34 yX1_pairs cX1_pairs 4 (some .boolean) 2 := ⟨List.forall_mem_cons.mpr ⟨q3_229, List.forall_mem_cons.mpr ⟨q3_230, List.forall_mem_cons.mpr ⟨q3_231, List.forall_mem_cons.mpr ⟨q1_11, fun _ h => absurd h List.not_mem_nil⟩⟩⟩⟩, q3_232, by decide, by decide, by decide +kernel⟩
def F_X3_mend_b144 (s_a1 : S7) (s_a1_forms : S1) (s_a1_paper : S4) (s_a1_words : S10) (x2 : Int32) (x3 : Int32) (K57 : Int32 → Int32 → Int32 → S3 → Option (Int32 × S3)) (v4 : Int32) (v6 : Int32) (zs_o : S3) (k0 : Int32) (k1 : Int32) : Option (Int32 × S3) := nm (k0 + k1) fun v5_1 => nm (v6 + 1) fun v6_2 => K57 v4 v5_1 v6_2 zs_o
def F_X3_mend_b99 (s_a1 : S7) (s_a1_forms : S1) (s_a1_paper : S4) (s_a1_words : S10) (x2 : Int32) (x3 : Int32) (K57 : Int32 → Int32 → Int32 → S3 → Option (Int32 × S3)) (v4 : Int32) (v5 : Int32) (v6 : Int32) (zs_o : S3) (k2 : Int32) (k3 : Int32) (k4 : Int32) : Option (Int32 × S3) := (F_X3_best s_a1_words zs_o k2 k3 k4).bind fun q_3 => nm q_3 fun v8_4 => (if 0 ≤ v8_4 then (F_X6_set 8 (s3_row zs_o) v6 v8_4).bind fun q_5 => (F_X4_wordAt s_a1_paper v6).bind fun q_6 => (if v8_4 = q_6 then F_X3_mend_b144 s_a1 s_a1_forms s_a1_paper s_a1_words x2 x3 K57 v4 v6 (u3_row zs_o q_5) v5 0 else F_X3_mend_b144 s_a1 s_a1_forms s_a1_paper s_a1_words x2 x3 K57 v4 v6 (u3_row zs_o q_5) v5 1) else some ((-9), zs_o))
def F_X3_mend_b57 (s_a1 : S7) (s_a1_forms : S1) (s_a1_paper : S4) (s_a1_words : S10) (x2 : Int32) (x3 : Int32) : Nat → Int32 → Int32 → Int32 → S3 → Option (Int32 × S3)
  | 0, _, _, _, _ => none
  | n + 1, v4, v5, v6, zs_o => (if v4 ≤ v6 then some (v5, zs_o) else (F_X1_ahead s_a1_forms x2 v6).bind fun q_7 => nm q_7 fun v7_8 => (if 0 ≤ v7_8 then (F_X3_wordAt zs_o v7_8).bind fun q_9 => F_X3_mend_b99 s_a1 s_a1_forms s_a1_paper s_a1_words x2 x3 (F_X3_mend_b57 s_a1 s_a1_forms s_a1_paper s_a1_words x2 x3 n) v4 v5 v6 zs_o x3 v6 q_9 else F_X3_mend_b99 s_a1 s_a1_forms s_a1_paper s_a1_words x2 x3 (F_X3_mend_b57 s_a1 s_a1_forms s_a1_paper s_a1_words x2 x3 n) v4 v5 v6 zs_o x3 v6 (-1)))
def F_X3_mend_b31 (s_a1 : S7) (s_a1_forms : S1) (s_a1_paper : S4) (s_a1_words : S10) (x2 : Int32) (x3 : Int32) : Nat → Int32 → Int32 → S3 → Option (Int32 × S3)
  | 0, _, _, _ => none
  | n + 1, v4, v5, zs_o => (if v5 < 0 then nm 0 fun v5_10 => nm 0 fun v6_11 => F_X3_mend_b57 s_a1 s_a1_forms s_a1_paper s_a1_words x2 x3 fu v4 v5_10 v6_11 zs_o else (F_X3_weigh s_a1 zs_o s_a1_forms s_a1_paper s_a1_words x2 x3 v5).bind fun q_12 => nm (v5 - 1) fun v5_13 => (F_X3_mend_b31 s_a1 s_a1_forms s_a1_paper s_a1_words x2 x3 n) v4 v5_13 q_12)
def F_X3_mend (s_a1 : S7) (s_o : S3) (s_a1_forms : S1) (s_a1_paper : S4) (s_a1_words : S10) (x2 : Int32) (x3 : Int32) : Option (Int32 × S3) := (F_X4_size s_a1_paper).bind fun q_14 => nm q_14 fun v4_15 => (F_X1_pairs s_a1_forms x2 v4_15).bind fun q_16 => (if q_16 = 0 then some ((-9), s_o) else nm (v4_15 - 1) fun v5_17 => F_X3_mend_b31 s_a1 s_a1_forms s_a1_paper s_a1_words x2 x3 fu v4_15 v5_17 s_o)
def w_X3_mend (a1 o a1_forms a1_paper a1_words a1_stock : Nat → Nat) (cB cI cJ cZ : ClassId) (s_a1 : S7) (s_o : S3) (s_a1_forms : S1) (s_a1_paper : S4) (s_a1_words : S10) : va_W := List.flatten [(gX7 a1 cB cI cJ cZ (a1_words 0) (a1_forms 0) (a1_paper 0) (a1_stock 0) s_a1), (gX3 o cB cI cJ cZ s_o), (gX1 a1_forms cB cI cJ cZ s_a1_forms), (gX4 a1_paper cB cI cJ cZ s_a1_paper), (gX10 a1_words cB cI cJ cZ s_a1_words)]
abbrev rm_X3_mend : Room := { frames := 5, cells := 0, slots := 0, locals := 122 }
set_option maxHeartbeats 4000000 in
set_option maxRecDepth 100000 in
theorem c_X3_mend (l : Launch) (D : gG) (cB cI cJ cZ : ClassId) (a1 o a1_forms a1_paper a1_words a1_stock : Nat → Nat) (s_a1 : S7) (s_o : S3) (s_a1_forms : S1) (s_a1_paper : S4) (s_a1_words : S10) (x2 : Int32) (x3 : Int32) (r : Int32 × S3) (hf : F_X3_mend s_a1 s_o s_a1_forms s_a1_paper s_a1_words x2 x3 = some r) : gM l D (tyL cB cI cJ cZ) yX3_mend cX3_mend 9 (some .int) rm_X3_mend [.ref (o 0), .ref (a1 0), .int x2, .int x3] (w_X3_mend a1 o a1_forms a1_paper a1_words a1_stock cB cI cJ cZ s_a1 s_o s_a1_forms s_a1_paper s_a1_words) (some (.int r.1)) (w_X3_mend a1 o a1_forms a1_paper a1_words a1_stock cB cI cJ cZ s_a1 r.2 s_a1_forms s_a1_paper s_a1_words) := by
  refine met_of (by decide) (Nat.le_of_ble_eq_true rfl) ?_
  intro p e s m args below meth c A cx hr hA
  show gW p l e rm_X3_mend s m args below meth c D A 9 _ 0 0 _ [(0, .ref (o 0)), (1, .ref (a1 0)), (2, .int x2), (3, .int x3)] 0 []
  have h144 : ∀ (K57 : Int32 → Int32 → Int32 → S3 → Option (Int32 × S3)), (∀ (v4 : Int32) (v5 : Int32) (v6 : Int32) (zs_o : S3), K57 v4 v5 v6 zs_o = some r → gW p l e rm_X3_mend s m args below meth c D A 9 (MQ below (QM D (tyL cB cI cJ cZ) (some (.int r.1)) (w_X3_mend a1 o a1_forms a1_paper a1_words a1_stock cB cI cJ cZ s_a1 s_o s_a1_forms s_a1_paper s_a1_words) (w_X3_mend a1 o a1_forms a1_paper a1_words a1_stock cB cI cJ cZ s_a1 r.2 s_a1_forms s_a1_paper s_a1_words) s.heap.size) args s 0 0 A) 0 0 (w_X3_mend a1 o a1_forms a1_paper a1_words a1_stock cB cI cJ cZ s_a1 zs_o s_a1_forms s_a1_paper s_a1_words) [(0, .ref (o 0)), (1, .ref (a1 0)), (2, .int x2), (3, .int x3), (4, .int v4), (5, .int v5), (6, .int v6)] 57 []) → ∀ (v4 : Int32) (v6 : Int32) (zs_o : S3) (k0 : Int32) (k1 : Int32), F_X3_mend_b144 s_a1 s_a1_forms s_a1_paper s_a1_words x2 x3 K57 v4 v6 zs_o k0 k1 = some r → gW p l e rm_X3_mend s m args below meth c D A 9 (MQ below (QM D (tyL cB cI cJ cZ) (some (.int r.1)) (w_X3_mend a1 o a1_forms a1_paper a1_words a1_stock cB cI cJ cZ s_a1 s_o s_a1_forms s_a1_paper s_a1_words) (w_X3_mend a1 o a1_forms a1_paper a1_words a1_stock cB cI cJ cZ s_a1 r.2 s_a1_forms s_a1_paper s_a1_words) s.heap.size) args s 0 0 A) 0 0 (w_X3_mend a1 o a1_forms a1_paper a1_words a1_stock cB cI cJ cZ s_a1 zs_o s_a1_forms s_a1_paper s_a1_words) [(0, .ref (o 0)), (1, .ref (a1 0)), (2, .int x2), (3, .int x3), (4, .int v4), (6, .int v6)] 144 [.int k1, .int k0] := by
    intro K57 kh57 v4 v6 zs_o k0 k1 hf
    rw [F_X3_mend_b144] at hf
    refine g_iadd cx dX3_mend_144 ?_
    refine g_is cx (L2 := fun v5_1 => [(5, .int v5_1), (0, .ref (o 0)), (1, .ref (a1 0)), (2, .int x2), (3, .int x3), (4, .int v4), (6, .int v6)]) hf dX3_mend_145 (Nat.le_of_ble_eq_true rfl) (fun _ => rfl) (fun v5_1 hf => ?_)
    refine g_inc cx (L2 := fun v6_2 => [(6, .int v6_2), (5, .int v5_1), (0, .ref (o 0)), (1, .ref (a1 0)), (2, .int x2), (3, .int x3), (4, .int v4)]) 6 hf dX3_mend_147 rfl (k_inc1 _) (Nat.le_of_ble_eq_true rfl) (fun _ => rfl) (fun v6_2 hf => ?_)
    refine g_goto (tgt := 57) cx dX3_mend_150 rfl ?_
    refine g_sub [2, 3, 4, 5, 6, 1, 0] rfl ?_
    exact kh57 _ _ _ _ hf
  have h99 : ∀ (K57 : Int32 → Int32 → Int32 → S3 → Option (Int32 × S3)), (∀ (v4 : Int32) (v5 : Int32) (v6 : Int32) (zs_o : S3), K57 v4 v5 v6 zs_o = some r → gW p l e rm_X3_mend s m args below meth c D A 9 (MQ below (QM D (tyL cB cI cJ cZ) (some (.int r.1)) (w_X3_mend a1 o a1_forms a1_paper a1_words a1_stock cB cI cJ cZ s_a1 s_o s_a1_forms s_a1_paper s_a1_words) (w_X3_mend a1 o a1_forms a1_paper a1_words a1_stock cB cI cJ cZ s_a1 r.2 s_a1_forms s_a1_paper s_a1_words) s.heap.size) args s 0 0 A) 0 0 (w_X3_mend a1 o a1_forms a1_paper a1_words a1_stock cB cI cJ cZ s_a1 zs_o s_a1_forms s_a1_paper s_a1_words) [(0, .ref (o 0)), (1, .ref (a1 0)), (2, .int x2), (3, .int x3), (4, .int v4), (5, .int v5), (6, .int v6)] 57 []) → ∀ (v4 : Int32) (v5 : Int32) (v6 : Int32) (zs_o : S3) (k2 : Int32) (k3 : Int32) (k4 : Int32), F_X3_mend_b99 s_a1 s_a1_forms s_a1_paper s_a1_words x2 x3 K57 v4 v5 v6 zs_o k2 k3 k4 = some r → gW p l e rm_X3_mend s m args below meth c D A 9 (MQ below (QM D (tyL cB cI cJ cZ) (some (.int r.1)) (w_X3_mend a1 o a1_forms a1_paper a1_words a1_stock cB cI cJ cZ s_a1 s_o s_a1_forms s_a1_paper s_a1_words) (w_X3_mend a1 o a1_forms a1_paper a1_words a1_stock cB cI cJ cZ s_a1 r.2 s_a1_forms s_a1_paper s_a1_words) s.heap.size) args s 0 0 A) 0 0 (w_X3_mend a1 o a1_forms a1_paper a1_words a1_stock cB cI cJ cZ s_a1 zs_o s_a1_forms s_a1_paper s_a1_words) [(0, .ref (o 0)), (1, .ref (a1 0)), (2, .int x2), (3, .int x3), (4, .int v4), (5, .int v5), (6, .int v6)] 99 [.int k4, .int k3, .int k2, .ref (a1_words 0), .ref (o 0)] := by
    intro K57 kh57 v4 v5 v6 zs_o k2 k3 k4 hf
    rw [F_X3_mend_b99] at hf
    refine ob hf (fun q_3 hq_3 hf => ?_)
    refine g_callVGiR cx lk_RX3_56 (c_X3_best l D cB cI cJ cZ a1_words o s_a1_words zs_o k2 k3 k4 q_3 hq_3) rfl [4, 1] rfl rfl (ci := 3) (q1 := 4) rfl rfl rfl (Nat.le_of_ble_eq_true rfl) ⟨rfl, rfl, Nat.le_of_ble_eq_true rfl, Nat.le_of_ble_eq_true rfl⟩ dX3_mend_99 ?_
    refine g_is cx (L2 := fun v8_4 => [(8, .int v8_4), (0, .ref (o 0)), (1, .ref (a1 0)), (2, .int x2), (3, .int x3), (4, .int v4), (5, .int v5), (6, .int v6)]) hf dX3_mend_102 (Nat.le_of_ble_eq_true rfl) (fun _ => rfl) (fun v8_4 hf => ?_)
    refine g_il cx 0 dX3_mend_104 rfl ?_
    refine g_if_ge (tgt := 112) cx hf dX3_mend_106 rfl (fun hf => ?_) (fun hf => ?_)
    · refine g_aln cx 1 dX3_mend_112 rfl ?_
      refine fg_RX3_15 cx 2 rfl rfl dX3_mend_113 ?_
      refine g_il cx 7 dX3_mend_116 rfl ?_
      refine g_il cx 0 dX3_mend_118 rfl ?_
      refine ob hf (fun q_5 hq_5 hf => ?_)
      refine g_callSv cx lk_RX3_60 (c_X6_set l D cB cI cJ cZ (o 2) 8 (s3_row zs_o) v6 v8_4 q_5 hq_5) rfl [4] rfl rfl (ws' := (w_X3_mend a1 o a1_forms a1_paper a1_words a1_stock cB cI cJ cZ s_a1 (u3_row zs_o q_5) s_a1_forms s_a1_paper s_a1_words)) rfl rfl rfl (Nat.le_of_ble_eq_true rfl) ⟨rfl, rfl, Nat.le_of_ble_eq_true rfl, Nat.le_of_ble_eq_true rfl⟩ dX3_mend_120 ?_
      refine g_il cx 6 dX3_mend_123 rfl ?_
      refine g_il cx 0 dX3_mend_125 rfl ?_
      refine g_aln cx 2 dX3_mend_127 rfl ?_
      refine fg_RX3_18 cx 0 rfl rfl dX3_mend_128 ?_
      refine g_il cx 7 dX3_mend_131 rfl ?_
      refine ob hf (fun q_6 hq_6 hf => ?_)
      refine g_callVGiR cx lk_RX3_66 (c_X4_wordAt l D cB cI cJ cZ a1_paper s_a1_paper v6 q_6 hq_6) rfl [3] rfl rfl (ci := 4) (q1 := 0) rfl rfl rfl (Nat.le_of_ble_eq_true rfl) ⟨rfl, rfl, Nat.le_of_ble_eq_true rfl, Nat.le_of_ble_eq_true rfl⟩ dX3_mend_133 ?_
      refine g_ic_ne (tgt := 143) cx hf dX3_mend_136 rfl (fun hf => ?_) (fun hf => ?_)
      · refine g_ic cx dX3_mend_143 k_ic1 ?_
        refine g_sub [1, 2, 3, 4, 5, 7] rfl ?_
        exact h144 _ kh57 _ _ _ _ _ hf
      · refine g_ic cx dX3_mend_139 k_ic0 ?_
        refine g_goto (tgt := 144) cx dX3_mend_140 rfl ?_
        refine g_sub [1, 2, 3, 4, 5, 7] rfl ?_
        exact h144 _ kh57 _ _ _ _ _ hf
    · refine g_bp cx dX3_mend_109 k_bpm9 ?_
      exact g_iret (ovf := fun (r : Int32 × S3) => (some (.int r.1))) (wf := fun (r : Int32 × S3) => (w_X3_mend a1 o a1_forms a1_paper a1_words a1_stock cB cI cJ cZ s_a1 r.2 s_a1_forms s_a1_paper s_a1_words)) cx hA hr hf rfl rfl dX3_mend_111
  have h57 : ∀ (n : Nat) (v4 : Int32) (v5 : Int32) (v6 : Int32) (zs_o : S3), F_X3_mend_b57 s_a1 s_a1_forms s_a1_paper s_a1_words x2 x3 n v4 v5 v6 zs_o = some r → gW p l e rm_X3_mend s m args below meth c D A 9 (MQ below (QM D (tyL cB cI cJ cZ) (some (.int r.1)) (w_X3_mend a1 o a1_forms a1_paper a1_words a1_stock cB cI cJ cZ s_a1 s_o s_a1_forms s_a1_paper s_a1_words) (w_X3_mend a1 o a1_forms a1_paper a1_words a1_stock cB cI cJ cZ s_a1 r.2 s_a1_forms s_a1_paper s_a1_words) s.heap.size) args s 0 0 A) 0 0 (w_X3_mend a1 o a1_forms a1_paper a1_words a1_stock cB cI cJ cZ s_a1 zs_o s_a1_forms s_a1_paper s_a1_words) [(0, .ref (o 0)), (1, .ref (a1 0)), (2, .int x2), (3, .int x3), (4, .int v4), (5, .int v5), (6, .int v6)] 57 [] := by
    intro n
    induction n with
    | zero => intro v4 v5 v6 zs_o hf; rw [F_X3_mend_b57] at hf; cases hf
    | succ n ih =>
      intro v4 v5 v6 zs_o hf
      rw [F_X3_mend_b57] at hf
      refine g_il cx 6 dX3_mend_57 rfl ?_
      refine g_il cx 4 dX3_mend_59 rfl ?_
      refine g_ic_ge (tgt := 153) cx hf dX3_mend_61 rfl (fun hf => ?_) (fun hf => ?_)
      · refine g_il cx 5 dX3_mend_153 rfl ?_
        exact g_iret (ovf := fun (r : Int32 × S3) => (some (.int r.1))) (wf := fun (r : Int32 × S3) => (w_X3_mend a1 o a1_forms a1_paper a1_words a1_stock cB cI cJ cZ s_a1 r.2 s_a1_forms s_a1_paper s_a1_words)) cx hA hr hf rfl rfl dX3_mend_155
      · refine g_aln cx 1 dX3_mend_64 rfl ?_
        refine fg_RX3_30 cx 0 rfl rfl dX3_mend_65 ?_
        refine g_iln cx 2 dX3_mend_68 rfl ?_
        refine g_il cx 6 dX3_mend_69 rfl ?_
        refine ob hf (fun q_7 hq_7 hf => ?_)
        refine g_callVGiR cx lk_RX3_44 (c_X1_ahead l D cB cI cJ cZ a1_forms s_a1_forms x2 v6 q_7 hq_7) rfl [2] rfl rfl (ci := 1) (q1 := 0) rfl rfl rfl (Nat.le_of_ble_eq_true rfl) ⟨rfl, rfl, Nat.le_of_ble_eq_true rfl, Nat.le_of_ble_eq_true rfl⟩ dX3_mend_71 ?_
        refine g_is cx (L2 := fun v7_8 => [(7, .int v7_8), (0, .ref (o 0)), (1, .ref (a1 0)), (2, .int x2), (3, .int x3), (4, .int v4), (5, .int v5), (6, .int v6)]) hf dX3_mend_74 (Nat.le_of_ble_eq_true rfl) (fun _ => rfl) (fun v7_8 hf => ?_)
        refine g_aln cx 1 dX3_mend_76 rfl ?_
        refine g_aln cx 2 dX3_mend_77 rfl ?_
        refine fg_RX3_48 cx 0 rfl rfl dX3_mend_78 ?_
        refine g_iln cx 4 dX3_mend_81 rfl ?_
        refine g_il cx 7 dX3_mend_82 rfl ?_
        refine g_il cx 0 dX3_mend_84 rfl ?_
        refine g_if_ge (tgt := 93) cx hf dX3_mend_86 rfl (fun hf => ?_) (fun hf => ?_)
        · refine g_aln cx 1 dX3_mend_93 rfl ?_
          refine g_il cx 0 dX3_mend_94 rfl ?_
          refine ob hf (fun q_9 hq_9 hf => ?_)
          refine g_callVGiR cx lk_RX3_52 (c_X3_wordAt l D cB cI cJ cZ o zs_o v7_8 q_9 hq_9) rfl [1] rfl rfl (ci := 3) (q1 := 0) rfl rfl rfl (Nat.le_of_ble_eq_true rfl) ⟨rfl, rfl, Nat.le_of_ble_eq_true rfl, Nat.le_of_ble_eq_true rfl⟩ dX3_mend_96 ?_
          refine g_sub [1, 2, 3, 4, 5, 6, 7] rfl ?_
          exact h99 _ ih _ _ _ _ _ _ _ hf
        · refine g_ic cx dX3_mend_89 k_icm1 ?_
          refine g_goto (tgt := 99) cx dX3_mend_90 rfl ?_
          refine g_sub [1, 2, 3, 4, 5, 6, 7] rfl ?_
          exact h99 _ ih _ _ _ _ _ _ _ hf
  have h31 : ∀ (n : Nat) (v4 : Int32) (v5 : Int32) (zs_o : S3), F_X3_mend_b31 s_a1 s_a1_forms s_a1_paper s_a1_words x2 x3 n v4 v5 zs_o = some r → gW p l e rm_X3_mend s m args below meth c D A 9 (MQ below (QM D (tyL cB cI cJ cZ) (some (.int r.1)) (w_X3_mend a1 o a1_forms a1_paper a1_words a1_stock cB cI cJ cZ s_a1 s_o s_a1_forms s_a1_paper s_a1_words) (w_X3_mend a1 o a1_forms a1_paper a1_words a1_stock cB cI cJ cZ s_a1 r.2 s_a1_forms s_a1_paper s_a1_words) s.heap.size) args s 0 0 A) 0 0 (w_X3_mend a1 o a1_forms a1_paper a1_words a1_stock cB cI cJ cZ s_a1 zs_o s_a1_forms s_a1_paper s_a1_words) [(0, .ref (o 0)), (1, .ref (a1 0)), (2, .int x2), (3, .int x3), (4, .int v4), (5, .int v5)] 31 [] := by
    intro n
    induction n with
    | zero => intro v4 v5 zs_o hf; rw [F_X3_mend_b31] at hf; cases hf
    | succ n ih =>
      intro v4 v5 zs_o hf
      rw [F_X3_mend_b31] at hf
      refine g_il cx 5 dX3_mend_31 rfl ?_
      refine g_if_lt (tgt := 51) cx hf dX3_mend_33 rfl (fun hf => ?_) (fun hf => ?_)
      · refine g_ic cx dX3_mend_51 k_ic0 ?_
        refine g_is cx (L2 := fun v5_10 => [(5, .int v5_10), (0, .ref (o 0)), (1, .ref (a1 0)), (2, .int x2), (3, .int x3), (4, .int v4)]) hf dX3_mend_52 (Nat.le_of_ble_eq_true rfl) (fun _ => rfl) (fun v5_10 hf => ?_)
        refine g_ic cx dX3_mend_54 k_ic0 ?_
        refine g_is cx (L2 := fun v6_11 => [(6, .int v6_11), (5, .int v5_10), (0, .ref (o 0)), (1, .ref (a1 0)), (2, .int x2), (3, .int x3), (4, .int v4)]) hf dX3_mend_55 (Nat.le_of_ble_eq_true rfl) (fun _ => rfl) (fun v6_11 hf => ?_)
        refine g_sub [2, 3, 4, 5, 6, 1, 0] rfl ?_
        exact h57 fu _ _ _ _ hf
      · refine g_aln cx 0 dX3_mend_36 rfl ?_
        refine g_aln cx 1 dX3_mend_37 rfl ?_
        refine g_iln cx 2 dX3_mend_38 rfl ?_
        refine g_iln cx 3 dX3_mend_39 rfl ?_
        refine g_il cx 5 dX3_mend_40 rfl ?_
        refine ob hf (fun q_12 hq_12 hf => ?_)
        refine g_callVGv (gs' := [(gX7 a1 cB cI cJ cZ (a1_words 0) (a1_forms 0) (a1_paper 0) (a1_stock 0) s_a1), (gX3 o cB cI cJ cZ q_12), (gX1 a1_forms cB cI cJ cZ s_a1_forms), (gX4 a1_paper cB cI cJ cZ s_a1_paper), (gX10 a1_words cB cI cJ cZ s_a1_words)]) cx lk_RX3_40 (c_X3_weigh l D cB cI cJ cZ a1 o a1_forms a1_paper a1_words a1_stock s_a1 zs_o s_a1_forms s_a1_paper s_a1_words x2 x3 v5 q_12 hq_12) rfl [0, 1, 2, 3, 4] rfl rfl rfl rfl (ci := 3) (q1 := 2) rfl rfl rfl (Nat.le_of_ble_eq_true rfl) ⟨rfl, rfl, Nat.le_of_ble_eq_true rfl, Nat.le_of_ble_eq_true rfl⟩ dX3_mend_42 ?_
        refine g_inc cx (L2 := fun v5_13 => [(5, .int v5_13), (0, .ref (o 0)), (1, .ref (a1 0)), (2, .int x2), (3, .int x3), (4, .int v4)]) 5 hf dX3_mend_45 rfl (k_incm1 _) (Nat.le_of_ble_eq_true rfl) (fun _ => rfl) (fun v5_13 hf => ?_)
        refine g_goto (tgt := 31) cx dX3_mend_48 rfl ?_
        refine g_sub [1, 2, 3, 4, 5, 0] rfl ?_
        exact ih _ _ _ hf
  rw [F_X3_mend] at hf
  refine g_aln cx 1 dX3_mend_0 rfl ?_
  refine fg_RX3_18 cx 0 rfl rfl dX3_mend_1 ?_
  refine ob hf (fun q_14 hq_14 hf => ?_)
  refine g_callVGiR cx lk_RX3_24 (c_X4_size l D cB cI cJ cZ a1_paper s_a1_paper q_14 hq_14) rfl [3] rfl rfl (ci := 4) (q1 := 0) rfl rfl rfl (Nat.le_of_ble_eq_true rfl) ⟨rfl, rfl, Nat.le_of_ble_eq_true rfl, Nat.le_of_ble_eq_true rfl⟩ dX3_mend_4 ?_
  refine g_is cx (L2 := fun v4_15 => [(4, .int v4_15), (0, .ref (o 0)), (1, .ref (a1 0)), (2, .int x2), (3, .int x3)]) hf dX3_mend_7 (Nat.le_of_ble_eq_true rfl) (fun _ => rfl) (fun v4_15 hf => ?_)
  refine g_aln cx 2 dX3_mend_9 rfl ?_
  refine fg_RX3_30 cx 0 rfl rfl dX3_mend_10 ?_
  refine g_iln cx 3 dX3_mend_13 rfl ?_
  refine g_il cx 0 dX3_mend_14 rfl ?_
  refine ob hf (fun q_16 hq_16 hf => ?_)
  refine g_callVGiR cx lk_RX3_34 (c_X1_pairs l D cB cI cJ cZ a1_forms s_a1_forms x2 v4_15 q_16 hq_16) rfl [2] rfl rfl (ci := 1) (q1 := 0) rfl rfl rfl (Nat.le_of_ble_eq_true rfl) ⟨rfl, rfl, Nat.le_of_ble_eq_true rfl, Nat.le_of_ble_eq_true rfl⟩ dX3_mend_16 ?_
  refine g_if_ne (tgt := 25) cx hf dX3_mend_19 rfl (fun hf => ?_) (fun hf => ?_)
  · refine g_il cx 0 dX3_mend_25 rfl ?_
    refine g_ic cx dX3_mend_27 k_ic1 ?_
    refine g_isub cx dX3_mend_28 ?_
    refine g_is cx (L2 := fun v5_17 => [(5, .int v5_17), (4, .int v4_15), (0, .ref (o 0)), (1, .ref (a1 0)), (2, .int x2), (3, .int x3)]) hf dX3_mend_29 (Nat.le_of_ble_eq_true rfl) (fun _ => rfl) (fun v5_17 hf => ?_)
    refine g_sub [2, 3, 4, 5, 1, 0] rfl ?_
    exact h31 fu _ _ _ hf
  · refine g_bp cx dX3_mend_22 k_bpm9 ?_
    exact g_iret (ovf := fun (r : Int32 × S3) => (some (.int r.1))) (wf := fun (r : Int32 × S3) => (w_X3_mend a1 o a1_forms a1_paper a1_words a1_stock cB cI cJ cZ s_a1 r.2 s_a1_forms s_a1_paper s_a1_words)) cx hA hr hf rfl rfl dX3_mend_24
