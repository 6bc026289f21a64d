theorem dX2_waysAt_0 : decode cX2_waysAt 0 = .ok (.iload_n 1, 1) := by decide +kernel
theorem dX2_waysAt_1 : decode cX2_waysAt 1 = .ok (.bipush 16, 2) := by decide +kernel
theorem dX2_waysAt_3 : decode cX2_waysAt 3 = .ok (.imul, 1) := by decide +kernel
theorem dX2_waysAt_4 : decode cX2_waysAt 4 = .ok (.iload_n 2, 1) := by decide +kernel
theorem dX2_waysAt_5 : decode cX2_waysAt 5 = .ok (.iadd, 1) := by decide +kernel
theorem dX2_waysAt_6 : decode cX2_waysAt 6 = .ok (.istore_n 3, 1) := by decide +kernel
theorem dX2_waysAt_7 : decode cX2_waysAt 7 = .ok (.iload_n 3, 1) := by decide +kernel
theorem dX2_waysAt_8 : decode cX2_waysAt 8 = .ok (.ifCond .lt 21, 3) := by decide +kernel
theorem dX2_waysAt_11 : decode cX2_waysAt 11 = .ok (.iload_n 3, 1) := by decide +kernel
theorem dX2_waysAt_12 : decode cX2_waysAt 12 = .ok (.aload_n 0, 1) := by decide +kernel
theorem dX2_waysAt_13 : decode cX2_waysAt 13 = .ok (.getfield 9, 3) := by decide +kernel
theorem dX2_waysAt_16 : decode cX2_waysAt 16 = .ok (.arraylength, 1) := by decide +kernel
theorem dX2_waysAt_17 : decode cX2_waysAt 17 = .ok (.if_icmp .ge 12, 3) := by decide +kernel
theorem dX2_waysAt_20 : decode cX2_waysAt 20 = .ok (.aload_n 0, 1) := by decide +kernel
theorem dX2_waysAt_21 : decode cX2_waysAt 21 = .ok (.getfield 9, 3) := by decide +kernel
theorem dX2_waysAt_24 : decode cX2_waysAt 24 = .ok (.iload_n 3, 1) := by decide +kernel
theorem dX2_waysAt_25 : decode cX2_waysAt 25 = .ok (.laload, 1) := by decide +kernel
theorem dX2_waysAt_26 : decode cX2_waysAt 26 = .ok (.goto 4, 3) := by decide +kernel
theorem dX2_waysAt_29 : decode cX2_waysAt 29 = .ok (.lconst 0, 1) := by decide +kernel
theorem dX2_waysAt_30 : decode cX2_waysAt 30 = .ok (.lreturn, 1) := by decide +kernel
theorem q1_119 : Cond.fieldLink RX2 9 "RhymeLaw$Guess" "ways" "[J" ∈ TT := tq1 119 rfl rfl
theorem fg_RX2_9 {p : Program} {l : Launch} {e : Env} {R : Room} {s : State} {m : MethodId} {args : Array Value} {below : List Frame} {meth : Method} {c : Code} {D : gG} {tys : List (ClassId × FieldType)} {A : Nat → Prop} {nL : Nat} {Q : State → Prop} {cells slots : Nat} {cc : ByteArray} {ws : va_W} {L : List (Nat × Value)} {pc : Nat} {stk : List Value} (cx : gX p s m args meth c cc nL RX2 D tys A) {a : Nat} {fs : List Value} {v : Value} (q0 : Nat) (he : ws[q0]? = some (a, .inr (2, fs))) (hv : fs[0]? = some v) (hd : decode cc pc = .ok (.getfield 9, 3)) (kk : gW p l e R s m args below meth c D A nL Q cells slots ws L (pc + 3) (v :: stk)) : gW p l e R s m args below meth c D A nL Q cells slots ws L pc (.ref a :: stk) :=
  g_get cx (C := RX2) (T := TX2) (N := 2) inT2 rfl 0 (Nat.le_of_ble_eq_true rfl) q1_119 rfl q0 he hv hd kk
def F_X2_waysAt (s_o : S2) (x1 : Int32) (x2 : Int32) : Option (Int64) := nm ((x1 * 16) + x2) fun v3_1 => (if v3_1 < 0 then some (0) else (if 128 ≤ v3_1 then some (0) else (agetL 128 (s2_ways s_o) v3_1).bind fun e_2 => some (e_2)))
def w_X2_waysAt (o : Nat → Nat) (cB cI cJ cZ : ClassId) (s_o : S2) : va_W := List.flatten [(gX2 o cB cI cJ cZ s_o)]
abbrev rm_X2_waysAt : Room := { frames := 0, cells := 0, slots := 0, locals := 0 }
set_option maxHeartbeats 4000000 in
set_option maxRecDepth 100000 in
theorem c_X2_waysAt (l : Launch) (D : gG) (cB cI cJ cZ : ClassId) (o : Nat → Nat) (s_o : S2) (x1 : Int32) (x2 : Int32) (r : Int64) (hf : F_X2_waysAt s_o x1 x2 = some r) : gM l D (tyL cB cI cJ cZ) yX2_waysAt cX2_waysAt 4 (some .long) rm_X2_waysAt [.ref (o 0), .int x1, .int x2] (w_X2_waysAt o cB cI cJ cZ s_o) (some (.long r)) (w_X2_waysAt o cB cI cJ cZ s_o) := by
  refine met_of (by decide) (Nat.le_of_ble_eq_true rfl) ?_
  intro p e s m args below meth c A cx hr hA
  show gW p l e rm_X2_waysAt s m args below meth c D A 4 _ 0 0 _ [(0, .ref (o 0)), (1, .int x1), (2, .int x2)] 0 []
  rw [F_X2_waysAt] at hf
  refine g_iln cx 1 dX2_waysAt_0 rfl ?_
  refine g_bp cx dX2_waysAt_1 k_bp16 ?_
  refine g_imul cx dX2_waysAt_3 ?_
  refine g_iln cx 2 dX2_waysAt_4 rfl ?_
  refine g_iadd cx dX2_waysAt_5 ?_
  refine g_isn cx (L2 := fun v3_1 => [(3, .int v3_1), (0, .ref (o 0)), (1, .int x1), (2, .int x2)]) hf dX2_waysAt_6 (Nat.le_of_ble_eq_true rfl) (fun _ => rfl) (fun v3_1 hf => ?_)
  refine g_iln cx 0 dX2_waysAt_7 rfl ?_
  refine g_if_lt (tgt := 29) cx hf dX2_waysAt_8 rfl (fun hf => ?_) (fun hf => ?_)
  · refine g_lc cx dX2_waysAt_29 rfl ?_
    exact g_lret (ovf := fun (r : Int64) => (some (.long r))) (wf := fun (r : Int64) => (w_X2_waysAt o cB cI cJ cZ s_o)) cx hA hr hf rfl rfl dX2_waysAt_30
  · refine g_iln cx 0 dX2_waysAt_11 rfl ?_
    refine g_aln cx 1 dX2_waysAt_12 rfl ?_
    refine fg_RX2_9 cx 0 rfl rfl dX2_waysAt_13 ?_
    refine g_alen cx 1 2 rfl rfl rfl dX2_waysAt_16 ?_
    refine g_ic_ge (tgt := 29) cx hf dX2_waysAt_17 rfl (fun hf => ?_) (fun hf => ?_)
    · refine g_lc cx dX2_waysAt_29 rfl ?_
      exact g_lret (ovf := fun (r : Int64) => (some (.long r))) (wf := fun (r : Int64) => (w_X2_waysAt o cB cI cJ cZ s_o)) cx hA hr hf rfl rfl dX2_waysAt_30
    · refine g_aln cx 1 dX2_waysAt_20 rfl ?_
      refine fg_RX2_9 cx 0 rfl rfl dX2_waysAt_21 ?_
      refine g_iln cx 0 dX2_waysAt_24 rfl ?_
      refine g_lald cx 1 2 hf rfl rfl dX2_waysAt_25 (fun e_2 hf => ?_)
      refine g_goto (tgt := 30) cx dX2_waysAt_26 rfl ?_
      exact g_lret (ovf := fun (r : Int64) => (some (.long r))) (wf := fun (r : Int64) => (w_X2_waysAt o cB cI cJ cZ s_o)) cx hA hr hf rfl rfl dX2_waysAt_30
theorem dX2_sum_0 : decode cX2_sum 0 = .ok (.lconst 0, 1) := by decide +kernel
theorem dX2_sum_1 : decode cX2_sum 1 = .ok (.lstore 5, 2) := by decide +kernel
theorem dX2_sum_3 : decode cX2_sum 3 = .ok (.iconst 0, 1) := by decide +kernel
theorem dX2_sum_4 : decode cX2_sum 4 = .ok (.istore 7, 2) := by decide +kernel
theorem dX2_sum_6 : decode cX2_sum 6 = .ok (.iload 7, 2) := by decide +kernel
theorem dX2_sum_8 : decode cX2_sum 8 = .ok (.aload_n 1, 1) := by decide +kernel
theorem dX2_sum_9 : decode cX2_sum 9 = .ok (.invokevirtual 57, 3) := by decide +kernel
theorem dX2_sum_12 : decode cX2_sum 12 = .ok (.if_icmp .ge 38, 3) := by decide +kernel
theorem dX2_sum_15 : decode cX2_sum 15 = .ok (.iload 4, 2) := by decide +kernel
theorem dX2_sum_17 : decode cX2_sum 17 = .ok (.ifCond .lt 15, 3) := by decide +kernel
theorem dX2_sum_20 : decode cX2_sum 20 = .ok (.aload_n 1, 1) := by decide +kernel
theorem dX2_sum_21 : decode cX2_sum 21 = .ok (.iload_n 2, 1) := by decide +kernel
theorem dX2_sum_22 : decode cX2_sum 22 = .ok (.iload 4, 2) := by decide +kernel
theorem dX2_sum_24 : decode cX2_sum 24 = .ok (.iload 7, 2) := by decide +kernel
theorem dX2_sum_26 : decode cX2_sum 26 = .ok (.invokevirtual 105, 3) := by decide +kernel
theorem dX2_sum_29 : decode cX2_sum 29 = .ok (.ifCond .eq 15, 3) := by decide +kernel
theorem dX2_sum_32 : decode cX2_sum 32 = .ok (.lload 5, 2) := by decide +kernel
theorem dX2_sum_34 : decode cX2_sum 34 = .ok (.aload_n 0, 1) := by decide +kernel
theorem dX2_sum_35 : decode cX2_sum 35 = .ok (.iload_n 3, 1) := by decide +kernel
theorem dX2_sum_36 : decode cX2_sum 36 = .ok (.iload 7, 2) := by decide +kernel
theorem dX2_sum_38 : decode cX2_sum 38 = .ok (.invokevirtual 60, 3) := by decide +kernel
theorem dX2_sum_41 : decode cX2_sum 41 = .ok (.ladd, 1) := by decide +kernel
theorem dX2_sum_42 : decode cX2_sum 42 = .ok (.lstore 5, 2) := by decide +kernel
theorem dX2_sum_44 : decode cX2_sum 44 = .ok (.iinc 7 1, 3) := by decide +kernel
theorem dX2_sum_47 : decode cX2_sum 47 = .ok (.goto (-41), 3) := by decide +kernel
theorem dX2_sum_50 : decode cX2_sum 50 = .ok (.lload 5, 2) := by decide +kernel
theorem dX2_sum_52 : decode cX2_sum 52 = .ok (.lreturn, 1) := by decide +kernel
theorem q0_17 : Cond.selects RX2 yX2_waysAt yX2_waysAt ∈ TT := tq0 17 rfl rfl
theorem q1_7 : Cond.initialized RX2 ∈ TT := tq1 7 rfl rfl
theorem q4_130 : Cond.methodLink RX2 57 yX10_size ∈ TT := tq4 130 rfl rfl
theorem q4_138 : Cond.methodLink RX2 105 yX10_rhyme ∈ TT := tq4 138 rfl rfl
theorem q4_139 : Cond.methodLink RX2 60 yX2_waysAt ∈ TT := tq4 139 rfl rfl
theorem q4_141 : Cond.instanceMethod yX2_waysAt ∈ TT := tq4 141 rfl rfl
theorem q4_142 : Cond.code yX2_waysAt cX2_waysAt 4 (some .long) ∈ TT := tq4 142 rfl rfl
theorem lk_RX2_60 : vlk RX2 60 yX2_waysAt cX2_waysAt 4 (some .long) 2 := ⟨List.forall_mem_cons.mpr ⟨q4_139, List.forall_mem_cons.mpr ⟨q4_141, List.forall_mem_cons.mpr ⟨q0_17, List.forall_mem_cons.mpr ⟨q1_7, fun _ h => absurd h List.not_mem_nil⟩⟩⟩⟩, q4_142, by decide, by decide, by decide +kernel⟩
theorem lk_RX2_57 : vlk RX2 57 yX10_size cX10_size 1 (some .int) 0 := ⟨List.forall_mem_cons.mpr ⟨q4_130, List.forall_mem_cons.mpr ⟨q2_227, List.forall_mem_cons.mpr ⟨q2_228, List.forall_mem_cons.mpr ⟨q1_10, fun _ h => absurd h List.not_mem_nil⟩⟩⟩⟩, q2_229, by decide, by decide, by decide +kernel⟩
theorem lk_RX2_105 : vlk RX2 105 yX10_rhyme cX10_rhyme 4 (some .boolean) 3 := ⟨List.forall_mem_cons.mpr ⟨q4_138, List.forall_mem_cons.mpr ⟨q3_136, List.forall_mem_cons.mpr ⟨q3_137, List.forall_mem_cons.mpr ⟨q1_10, fun _ h => absurd h List.not_mem_nil⟩⟩⟩⟩, q3_138, by decide, by decide, by decide +kernel⟩
def F_X2_sum_b44 (s_a1 : S10) (s_o : S2) (x2 : Int32) (x3 : Int32) (x4 : Int32) (K6 : Int64 → Int32 → Option (Int64)) (v5 : Int64) (v7 : Int32) : Option (Int64) := nm (v7 + 1) fun v7_1 => K6 v5 v7_1
def F_X2_sum_b32 (s_a1 : S10) (s_o : S2) (x2 : Int32) (x3 : Int32) (x4 : Int32) (K6 : Int64 → Int32 → Option (Int64)) (v5 : Int64) (v7 : Int32) : Option (Int64) := (F_X2_waysAt s_o x3 v7).bind fun q_2 => nm (v5 + q_2) fun v5_3 => F_X2_sum_b44 s_a1 s_o x2 x3 x4 K6 v5_3 v7
def F_X2_sum_b6 (s_a1 : S10) (s_o : S2) (x2 : Int32) (x3 : Int32) (x4 : Int32) : Nat → Int64 → Int32 → Option (Int64)
  | 0, _, _ => none
  | n + 1, v5, v7 => (F_X10_size s_a1).bind fun q_4 => (if q_4 ≤ v7 then some (v5) else (if x4 < 0 then F_X2_sum_b32 s_a1 s_o x2 x3 x4 (F_X2_sum_b6 s_a1 s_o x2 x3 x4 n) v5 v7 else (F_X10_rhyme s_a1 x2 x4 v7).bind fun q_5 => (if q_5 = 0 then F_X2_sum_b44 s_a1 s_o x2 x3 x4 (F_X2_sum_b6 s_a1 s_o x2 x3 x4 n) v5 v7 else F_X2_sum_b32 s_a1 s_o x2 x3 x4 (F_X2_sum_b6 s_a1 s_o x2 x3 x4 n) v5 v7)))
def F_X2_sum (s_a1 : S10) (s_o : S2) (x2 : Int32) (x3 : Int32) (x4 : Int32) : Option (Int64) := nm 0 fun v5_6 => nm 0 fun v7_7 => F_X2_sum_b6 s_a1 s_o x2 x3 x4 fu v5_6 v7_7
def w_X2_sum (a1 o : Nat → Nat) (cB cI cJ cZ : ClassId) (s_a1 : S10) (s_o : S2) : va_W := List.flatten [(gX10 a1 cB cI cJ cZ s_a1), (gX2 o cB cI cJ cZ s_o)]
abbrev rm_X2_sum : Room := { frames := 3, cells := 0, slots := 0, locals := 66 }
set_option maxHeartbeats 4000000 in
set_option maxRecDepth 100000 in
theorem c_X2_sum (l : Launch) (D : gG) (cB cI cJ cZ : ClassId) (a1 o : Nat → Nat) (s_a1 : S10) (s_o : S2) (x2 : Int32) (x3 : Int32) (x4 : Int32) (r : Int64) (hf : F_X2_sum s_a1 s_o x2 x3 x4 = some r) : gM l D (tyL cB cI cJ cZ) yX2_sum cX2_sum 8 (some .long) rm_X2_sum [.ref (o 0), .ref (a1 0), .int x2, .int x3, .int x4] (w_X2_sum a1 o cB cI cJ cZ s_a1 s_o) (some (.long r)) (w_X2_sum a1 o cB cI cJ cZ s_a1 s_o) := by
  refine met_of (by decide) (Nat.le_of_ble_eq_true rfl) ?_
  intro p e s m args below meth c A cx hr hA
  show gW p l e rm_X2_sum s m args below meth c D A 8 _ 0 0 _ [(0, .ref (o 0)), (1, .ref (a1 0)), (2, .int x2), (3, .int x3), (4, .int x4)] 0 []
  have h44 : ∀ (K6 : Int64 → Int32 → Option (Int64)), (∀ (v5 : Int64) (v7 : Int32), K6 v5 v7 = some r → gW p l e rm_X2_sum s m args below meth c D A 8 (MQ below (QM D (tyL cB cI cJ cZ) (some (.long r)) (w_X2_sum a1 o cB cI cJ cZ s_a1 s_o) (w_X2_sum a1 o cB cI cJ cZ s_a1 s_o) s.heap.size) args s 0 0 A) 0 0 (w_X2_sum a1 o cB cI cJ cZ s_a1 s_o) [(0, .ref (o 0)), (1, .ref (a1 0)), (2, .int x2), (3, .int x3), (4, .int x4), (5, .long v5), (7, .int v7)] 6 []) → ∀ (v5 : Int64) (v7 : Int32), F_X2_sum_b44 s_a1 s_o x2 x3 x4 K6 v5 v7 = some r → gW p l e rm_X2_sum s m args below meth c D A 8 (MQ below (QM D (tyL cB cI cJ cZ) (some (.long r)) (w_X2_sum a1 o cB cI cJ cZ s_a1 s_o) (w_X2_sum a1 o cB cI cJ cZ s_a1 s_o) s.heap.size) args s 0 0 A) 0 0 (w_X2_sum a1 o cB cI cJ cZ s_a1 s_o) [(0, .ref (o 0)), (1, .ref (a1 0)), (2, .int x2), (3, .int x3), (4, .int x4), (5, .long v5), (7, .int v7)] 44 [] := by
    intro K6 kh6 v5 v7 hf
    rw [F_X2_sum_b44] at hf
    refine g_inc cx (L2 := fun v7_1 => [(7, .int v7_1), (0, .ref (o 0)), (1, .ref (a1 0)), (2, .int x2), (3, .int x3), (4, .int x4), (5, .long v5)]) 6 hf dX2_sum_44 rfl (k_inc1 _) (Nat.le_of_ble_eq_true rfl) (fun _ => rfl) (fun v7_1 hf => ?_)
    refine g_goto (tgt := 6) cx dX2_sum_47 rfl ?_
    refine g_sub [1, 2, 3, 4, 5, 6, 0] rfl ?_
    exact kh6 _ _ hf
  have h32 : ∀ (K6 : Int64 → Int32 → Option (Int64)), (∀ (v5 : Int64) (v7 : Int32), K6 v5 v7 = some r → gW p l e rm_X2_sum s m args below meth c D A 8 (MQ below (QM D (tyL cB cI cJ cZ) (some (.long r)) (w_X2_sum a1 o cB cI cJ cZ s_a1 s_o) (w_X2_sum a1 o cB cI cJ cZ s_a1 s_o) s.heap.size) args s 0 0 A) 0 0 (w_X2_sum a1 o cB cI cJ cZ s_a1 s_o) [(0, .ref (o 0)), (1, .ref (a1 0)), (2, .int x2), (3, .int x3), (4, .int x4), (5, .long v5), (7, .int v7)] 6 []) → ∀ (v5 : Int64) (v7 : Int32), F_X2_sum_b32 s_a1 s_o x2 x3 x4 K6 v5 v7 = some r → gW p l e rm_X2_sum s m args below meth c D A 8 (MQ below (QM D (tyL cB cI cJ cZ) (some (.long r)) (w_X2_sum a1 o cB cI cJ cZ s_a1 s_o) (w_X2_sum a1 o cB cI cJ cZ s_a1 s_o) s.heap.size) args s 0 0 A) 0 0 (w_X2_sum a1 o cB cI cJ cZ s_a1 s_o) [(0, .ref (o 0)), (1, .ref (a1 0)), (2, .int x2), (3, .int x3), (4, .int x4), (5, .long v5), (7, .int v7)] 32 [] := by
    intro K6 kh6 v5 v7 hf
    rw [F_X2_sum_b32] at hf
    refine g_ll cx 5 dX2_sum_32 rfl ?_
    refine g_aln cx 0 dX2_sum_34 rfl ?_
    refine g_iln cx 3 dX2_sum_35 rfl ?_
    refine g_il cx 6 dX2_sum_36 rfl ?_
    refine ob hf (fun q_2 hq_2 hf => ?_)
    refine g_callVGlR cx lk_RX2_60 (c_X2_waysAt l D cB cI cJ cZ o s_o x3 v7 q_2 hq_2) rfl [1] rfl rfl (ci := 2) (q1 := 0) rfl rfl rfl (Nat.le_of_ble_eq_true rfl) ⟨rfl, rfl, Nat.le_of_ble_eq_true rfl, Nat.le_of_ble_eq_true rfl⟩ dX2_sum_38 ?_
    refine g_ladd cx dX2_sum_41 ?_
    refine g_ls cx (L2 := fun v5_3 => [(5, .long v5_3), (0, .ref (o 0)), (1, .ref (a1 0)), (2, .int x2), (3, .int x3), (4, .int x4), (7, .int v7)]) hf dX2_sum_42 (Nat.le_of_ble_eq_true rfl) (fun _ => rfl) (fun v5_3 hf => ?_)
    refine g_sub [1, 2, 3, 4, 5, 0, 6] rfl ?_
    exact h44 _ kh6 _ _ hf
  have h6 : ∀ (n : Nat) (v5 : Int64) (v7 : Int32), F_X2_sum_b6 s_a1 s_o x2 x3 x4 n v5 v7 = some r → gW p l e rm_X2_sum s m args below meth c D A 8 (MQ below (QM D (tyL cB cI cJ cZ) (some (.long r)) (w_X2_sum a1 o cB cI cJ cZ s_a1 s_o) (w_X2_sum a1 o cB cI cJ cZ s_a1 s_o) s.heap.size) args s 0 0 A) 0 0 (w_X2_sum a1 o cB cI cJ cZ s_a1 s_o) [(0, .ref (o 0)), (1, .ref (a1 0)), (2, .int x2), (3, .int x3), (4, .int x4), (5, .long v5), (7, .int v7)] 6 [] := by
    intro n
    induction n with
    | zero => intro v5 v7 hf; rw [F_X2_sum_b6] at hf; cases hf
    | succ n ih =>
      intro v5 v7 hf
      rw [F_X2_sum_b6] at hf
      refine g_il cx 6 dX2_sum_6 rfl ?_
      refine g_aln cx 1 dX2_sum_8 rfl ?_
      refine ob hf (fun q_4 hq_4 hf => ?_)
      refine g_callVGiR cx lk_RX2_57 (c_X10_size l D cB cI cJ cZ a1 s_a1 q_4 hq_4) rfl [0] rfl rfl (ci := 8) (q1 := 0) rfl rfl rfl (Nat.le_of_ble_eq_true rfl) ⟨rfl, rfl, Nat.le_of_ble_eq_true rfl, Nat.le_of_ble_eq_true rfl⟩ dX2_sum_9 ?_
      refine g_ic_ge (tgt := 50) cx hf dX2_sum_12 rfl (fun hf => ?_) (fun hf => ?_)
      · refine g_ll cx 5 dX2_sum_50 rfl ?_
        exact g_lret (ovf := fun (r : Int64) => (some (.long r))) (wf := fun (r : Int64) => (w_X2_sum a1 o cB cI cJ cZ s_a1 s_o)) cx hA hr hf rfl rfl dX2_sum_52
      · refine g_il cx 4 dX2_sum_15 rfl ?_
        refine g_if_lt (tgt := 32) cx hf dX2_sum_17 rfl (fun hf => ?_) (fun hf => ?_)
        · exact h32 _ ih _ _ hf
        · refine g_aln cx 1 dX2_sum_20 rfl ?_
          refine g_iln cx 2 dX2_sum_21 rfl ?_
          refine g_il cx 4 dX2_sum_22 rfl ?_
          refine g_il cx 6 dX2_sum_24 rfl ?_
          refine ob hf (fun q_5 hq_5 hf => ?_)
          refine g_callVGiR cx lk_RX2_105 (c_X10_rhyme l D cB cI cJ cZ a1 s_a1 x2 x4 v7 q_5 hq_5) rfl [0] rfl rfl (ci := 8) (q1 := 0) rfl rfl rfl (Nat.le_of_ble_eq_true rfl) ⟨rfl, rfl, Nat.le_of_ble_eq_true rfl, Nat.le_of_ble_eq_true rfl⟩ dX2_sum_26 ?_
          refine g_if_eq (tgt := 44) cx hf dX2_sum_29 rfl (fun hf => ?_) (fun hf => ?_)
          · exact h44 _ ih _ _ hf
          · exact h32 _ ih _ _ hf
  rw [F_X2_sum] at hf
  refine g_lc cx dX2_sum_0 rfl ?_
  refine g_ls cx (L2 := fun v5_6 => [(5, .long v5_6), (0, .ref (o 0)), (1, .ref (a1 0)), (2, .int x2), (3, .int x3), (4, .int x4)]) hf dX2_sum_1 (Nat.le_of_ble_eq_true rfl) (fun _ => rfl) (fun v5_6 hf => ?_)
  refine g_ic cx dX2_sum_3 k_ic0 ?_
  refine g_is cx (L2 := fun v7_7 => [(7, .int v7_7), (5, .long v5_6), (0, .ref (o 0)), (1, .ref (a1 0)), (2, .int x2), (3, .int x3), (4, .int x4)]) hf dX2_sum_4 (Nat.le_of_ble_eq_true rfl) (fun _ => rfl) (fun v7_7 hf => ?_)
  refine g_sub [2, 3, 4, 5, 6, 1, 0] rfl ?_
  exact h6 fu _ _ hf
theorem dX2_setWays_0 : decode cX2_setWays 0 = .ok (.iload_n 1, 1) := by decide +kernel
theorem dX2_setWays_1 : decode cX2_setWays 1 = .ok (.bipush 16, 2) := by decide +kernel
theorem dX2_setWays_3 : decode cX2_setWays 3 = .ok (.imul, 1) := by decide +kernel
theorem dX2_setWays_4 : decode cX2_setWays 4 = .ok (.iload_n 2, 1) := by decide +kernel
theorem dX2_setWays_5 : decode cX2_setWays 5 = .ok (.iadd, 1) := by decide +kernel
theorem dX2_setWays_6 : decode cX2_setWays 6 = .ok (.istore 5, 2) := by decide +kernel
theorem dX2_setWays_8 : decode cX2_setWays 8 = .ok (.iload 5, 2) := by decide +kernel
theorem dX2_setWays_10 : decode cX2_setWays 10 = .ok (.ifCond .lt 21, 3) := by decide +kernel
theorem dX2_setWays_13 : decode cX2_setWays 13 = .ok (.iload 5, 2) := by decide +kernel
theorem dX2_setWays_15 : decode cX2_setWays 15 = .ok (.aload_n 0, 1) := by decide +kernel
theorem dX2_setWays_16 : decode cX2_setWays 16 = .ok (.getfield 9, 3) := by decide +kernel
theorem dX2_setWays_19 : decode cX2_setWays 19 = .ok (.arraylength, 1) := by decide +kernel
theorem dX2_setWays_20 : decode cX2_setWays 20 = .ok (.if_icmp .ge 11, 3) := by decide +kernel
theorem dX2_setWays_23 : decode cX2_setWays 23 = .ok (.aload_n 0, 1) := by decide +kernel
theorem dX2_setWays_24 : decode cX2_setWays 24 = .ok (.getfield 9, 3) := by decide +kernel
theorem dX2_setWays_27 : decode cX2_setWays 27 = .ok (.iload 5, 2) := by decide +kernel
theorem dX2_setWays_29 : decode cX2_setWays 29 = .ok (.lload_n 3, 1) := by decide +kernel
theorem dX2_setWays_30 : decode cX2_setWays 30 = .ok (.lastore, 1) := by decide +kernel
theorem dX2_setWays_31 : decode cX2_setWays 31 = .ok (.return_, 1) := by decide +kernel


def F_X2_setWays (s_o : S2) (x1 : Int32) (x2 : Int32) (x3 : Int64) : Option (S2) := nm ((x1 * 16) + x2) fun v5_1 => (if v5_1 < 0 then some (s_o) else (if 128 ≤ v5_1 then some (s_o) else (asetL 128 (s2_ways s_o) v5_1 x3).bind fun f_2 => nm (u2_ways s_o f_2) fun s_o_3 => some (s_o_3)))
def w_X2_setWays (o : Nat → Nat) (cB cI cJ cZ : ClassId) (s_o : S2) : va_W := List.flatten [(gX2 o cB cI cJ cZ s_o)]
abbrev rm_X2_setWays : Room := { frames := 0, cells := 0, slots := 0, locals := 0 }
set_option maxHeartbeats 4000000 in
set_option maxRecDepth 100000 in
theorem c_X2_setWays (l : Launch) (D : gG) (cB cI cJ cZ : ClassId) (o : Nat → Nat) (s_o : S2) (x1 : Int32) (x2 : Int32) (x3 : Int64) (r : S2) (hf : F_X2_setWays s_o x1 x2 x3 = some r) : gM l D (tyL cB cI cJ cZ) yX2_setWays cX2_setWays 6 none rm_X2_setWays [.ref (o 0), .int x1, .int x2, .long x3] (w_X2_setWays o cB cI cJ cZ s_o) none (w_X2_setWays o cB cI cJ cZ r) := by
  refine met_of (by decide) (Nat.le_of_ble_eq_true rfl) ?_
  intro p e s m args below meth c A cx hr hA
  show gW p l e rm_X2_setWays s m args below meth c D A 6 _ 0 0 _ [(0, .ref (o 0)), (1, .int x1), (2, .int x2), (3, .long x3)] 0 []
  rw [F_X2_setWays] at hf
  refine g_iln cx 1 dX2_setWays_0 rfl ?_
  refine g_bp cx dX2_setWays_1 k_bp16 ?_
  refine g_imul cx dX2_setWays_3 ?_
  refine g_iln cx 2 dX2_setWays_4 rfl ?_
  refine g_iadd cx dX2_setWays_5 ?_
  refine g_is cx (L2 := fun v5_1 => [(5, .int v5_1), (0, .ref (o 0)), (1, .int x1), (2, .int x2), (3, .long x3)]) hf dX2_setWays_6 (Nat.le_of_ble_eq_true rfl) (fun _ => rfl) (fun v5_1 hf => ?_)
  refine g_il cx 0 dX2_setWays_8 rfl ?_
  refine g_if_lt (tgt := 31) cx hf dX2_setWays_10 rfl (fun hf => ?_) (fun hf => ?_)
  · exact g_vret (ovf := fun (r : S2) => none) (wf := fun (r : S2) => (w_X2_setWays o cB cI cJ cZ r)) cx hA hr hf rfl rfl dX2_setWays_31
  · refine g_il cx 0 dX2_setWays_13 rfl ?_
    refine g_aln cx 1 dX2_setWays_15 rfl ?_
    refine fg_RX2_9 cx 0 rfl rfl dX2_setWays_16 ?_
    refine g_alen cx 1 2 rfl rfl rfl dX2_setWays_19 ?_
    refine g_ic_ge (tgt := 31) cx hf dX2_setWays_20 rfl (fun hf => ?_) (fun hf => ?_)
    · exact g_vret (ovf := fun (r : S2) => none) (wf := fun (r : S2) => (w_X2_setWays o cB cI cJ cZ r)) cx hA hr hf rfl rfl dX2_setWays_31
    · refine g_aln cx 1 dX2_setWays_23 rfl ?_
      refine fg_RX2_9 cx 0 rfl rfl dX2_setWays_24 ?_
      refine g_il cx 0 dX2_setWays_27 rfl ?_
      refine g_lln cx 4 dX2_setWays_29 rfl ?_
      refine g_last cx 1 2 (ws' := fun f_2 => (w_X2_setWays o cB cI cJ cZ (u2_ways s_o f_2))) hf rfl rfl (fun _ => rfl) dX2_setWays_30 (fun f_2 hf => ?_)
      refine g_nm (w := fun s_o_3 => (w_X2_setWays o cB cI cJ cZ s_o_3)) hf (fun s_o_3 hf => ?_)
      exact g_vret (ovf := fun (r : S2) => none) (wf := fun (r : S2) => (w_X2_setWays o cB cI cJ cZ r)) cx hA hr hf rfl rfl dX2_setWays_31
def tX2_weigh_8 : List Nat := 177 :: []
def tX2_weigh_7 : List Nat := 42 :: 21 :: 4 :: 21 :: 8 :: 22 :: 9 :: 182 :: 0 :: 101 :: 132 :: 8 :: 1 :: 167 :: 255 :: 165 :: tX2_weigh_8
def tX2_weigh_6 : List Nat := 16 :: 42 :: 43 :: 180 :: 0 :: 49 :: 29 :: 21 :: 6 :: 21 :: 8 :: 182 :: 0 :: 53 :: 55 :: 9 :: tX2_weigh_7
def tX2_weigh_5 : List Nat := 0 :: 94 :: 182 :: 0 :: 97 :: 153 :: 0 :: 27 :: 21 :: 6 :: 156 :: 0 :: 7 :: 10 :: 167 :: 0 :: tX2_weigh_6
def tX2_weigh_4 : List Nat := 91 :: 160 :: 0 :: 47 :: 43 :: 21 :: 7 :: 21 :: 8 :: 43 :: 180 :: 0 :: 19 :: 21 :: 4 :: 182 :: tX2_weigh_5
def tX2_weigh_3 : List Nat := 9 :: 21 :: 5 :: 154 :: 0 :: 17 :: 21 :: 8 :: 43 :: 180 :: 0 :: 19 :: 21 :: 4 :: 182 :: 0 :: tX2_weigh_4
def tX2_weigh_2 : List Nat := 54 :: 8 :: 21 :: 8 :: 43 :: 180 :: 0 :: 49 :: 182 :: 0 :: 57 :: 162 :: 0 :: 85 :: 9 :: 55 :: tX2_weigh_3
def tX2_weigh_1 : List Nat := 84 :: 54 :: 6 :: 43 :: 180 :: 0 :: 31 :: 28 :: 21 :: 4 :: 182 :: 0 :: 88 :: 54 :: 7 :: 3 :: tX2_weigh_2
def tX2_weigh_0 : List Nat := 43 :: 180 :: 0 :: 31 :: 28 :: 21 :: 4 :: 43 :: 180 :: 0 :: 19 :: 182 :: 0 :: 25 :: 182 :: 0 :: tX2_weigh_1
theorem tX2_weighf_0 : (cX2_weigh.data.toList.map UInt8.toNat).drop 0 = tX2_weigh_0 := by decide +kernel
theorem tX2_weighf_1 : (cX2_weigh.data.toList.map UInt8.toNat).drop 16 = tX2_weigh_1 := fd_next (k := 0) tX2_weighf_0 rfl
theorem tX2_weighf_2 : (cX2_weigh.data.toList.map UInt8.toNat).drop 32 = tX2_weigh_2 := fd_next (k := 16) tX2_weighf_1 rfl
theorem tX2_weighf_3 : (cX2_weigh.data.toList.map UInt8.toNat).drop 48 = tX2_weigh_3 := fd_next (k := 32) tX2_weighf_2 rfl
theorem tX2_weighf_4 : (cX2_weigh.data.toList.map UInt8.toNat).drop 64 = tX2_weigh_4 := fd_next (k := 48) tX2_weighf_3 rfl
theorem tX2_weighf_5 : (cX2_weigh.data.toList.map UInt8.toNat).drop 80 = tX2_weigh_5 := fd_next (k := 64) tX2_weighf_4 rfl
theorem tX2_weighf_6 : (cX2_weigh.data.toList.map UInt8.toNat).drop 96 = tX2_weigh_6 := fd_next (k := 80) tX2_weighf_5 rfl
theorem tX2_weighf_7 : (cX2_weigh.data.toList.map UInt8.toNat).drop 112 = tX2_weigh_7 := fd_next (k := 96) tX2_weighf_6 rfl
theorem tX2_weighf_8 : (cX2_weigh.data.toList.map UInt8.toNat).drop 128 = tX2_weigh_8 := fd_next (k := 112) tX2_weighf_7 rfl
theorem dX2_weigh_0 : decode cX2_weigh 0 = .ok (.aload_n 1, 1) := dk_43 (fdB_of (k := 0) tX2_weighf_0 0 43 rfl)
theorem dX2_weigh_1 : decode cX2_weigh 1 = .ok (.getfield 31, 3) := dk_180 (fdB_of (k := 0) tX2_weighf_0 1 180 rfl) (fdB_of (k := 0) tX2_weighf_0 2 0 rfl) (fdB_of (k := 0) tX2_weighf_0 3 31 rfl)
theorem dX2_weigh_4 : decode cX2_weigh 4 = .ok (.iload_n 2, 1) := dk_28 (fdB_of (k := 0) tX2_weighf_0 4 28 rfl)
theorem dX2_weigh_5 : decode cX2_weigh 5 = .ok (.iload 4, 2) := dk_21 (fdB_of (k := 0) tX2_weighf_0 5 21 rfl) (fdB_of (k := 0) tX2_weighf_0 6 4 rfl)
theorem dX2_weigh_7 : decode cX2_weigh 7 = .ok (.aload_n 1, 1) := dk_43 (fdB_of (k := 0) tX2_weighf_0 7 43 rfl)
theorem dX2_weigh_8 : decode cX2_weigh 8 = .ok (.getfield 19, 3) := dk_180 (fdB_of (k := 0) tX2_weighf_0 8 180 rfl) (fdB_of (k := 0) tX2_weighf_0 9 0 rfl) (fdB_of (k := 0) tX2_weighf_0 10 19 rfl)
theorem dX2_weigh_11 : decode cX2_weigh 11 = .ok (.invokevirtual 25, 3) := dk_182 (fdB_of (k := 0) tX2_weighf_0 11 182 rfl) (fdB_of (k := 0) tX2_weighf_0 12 0 rfl) (fdB_of (k := 0) tX2_weighf_0 13 25 rfl)
theorem dX2_weigh_14 : decode cX2_weigh 14 = .ok (.invokevirtual 84, 3) := dk_182 (fdB_of (k := 0) tX2_weighf_0 14 182 rfl) (fdB_of (k := 0) tX2_weighf_0 15 0 rfl) (fdB_of (k := 16) tX2_weighf_1 0 84 rfl)
theorem dX2_weigh_17 : decode cX2_weigh 17 = .ok (.istore 6, 2) := dk_54 (fdB_of (k := 16) tX2_weighf_1 1 54 rfl) (fdB_of (k := 16) tX2_weighf_1 2 6 rfl)
theorem dX2_weigh_19 : decode cX2_weigh 19 = .ok (.aload_n 1, 1) := dk_43 (fdB_of (k := 16) tX2_weighf_1 3 43 rfl)
theorem dX2_weigh_20 : decode cX2_weigh 20 = .ok (.getfield 31, 3) := dk_180 (fdB_of (k := 16) tX2_weighf_1 4 180 rfl) (fdB_of (k := 16) tX2_weighf_1 5 0 rfl) (fdB_of (k := 16) tX2_weighf_1 6 31 rfl)
theorem dX2_weigh_23 : decode cX2_weigh 23 = .ok (.iload_n 2, 1) := dk_28 (fdB_of (k := 16) tX2_weighf_1 7 28 rfl)
theorem dX2_weigh_24 : decode cX2_weigh 24 = .ok (.iload 4, 2) := dk_21 (fdB_of (k := 16) tX2_weighf_1 8 21 rfl) (fdB_of (k := 16) tX2_weighf_1 9 4 rfl)
theorem dX2_weigh_26 : decode cX2_weigh 26 = .ok (.invokevirtual 88, 3) := dk_182 (fdB_of (k := 16) tX2_weighf_1 10 182 rfl) (fdB_of (k := 16) tX2_weighf_1 11 0 rfl) (fdB_of (k := 16) tX2_weighf_1 12 88 rfl)
theorem dX2_weigh_29 : decode cX2_weigh 29 = .ok (.istore 7, 2) := dk_54 (fdB_of (k := 16) tX2_weighf_1 13 54 rfl) (fdB_of (k := 16) tX2_weighf_1 14 7 rfl)
theorem dX2_weigh_31 : decode cX2_weigh 31 = .ok (.iconst 0, 1) := dk_3 (fdB_of (k := 16) tX2_weighf_1 15 3 rfl)
theorem dX2_weigh_32 : decode cX2_weigh 32 = .ok (.istore 8, 2) := dk_54 (fdB_of (k := 32) tX2_weighf_2 0 54 rfl) (fdB_of (k := 32) tX2_weighf_2 1 8 rfl)
theorem dX2_weigh_34 : decode cX2_weigh 34 = .ok (.iload 8, 2) := dk_21 (fdB_of (k := 32) tX2_weighf_2 2 21 rfl) (fdB_of (k := 32) tX2_weighf_2 3 8 rfl)
theorem dX2_weigh_36 : decode cX2_weigh 36 = .ok (.aload_n 1, 1) := dk_43 (fdB_of (k := 32) tX2_weighf_2 4 43 rfl)
theorem dX2_weigh_37 : decode cX2_weigh 37 = .ok (.getfield 49, 3) := dk_180 (fdB_of (k := 32) tX2_weighf_2 5 180 rfl) (fdB_of (k := 32) tX2_weighf_2 6 0 rfl) (fdB_of (k := 32) tX2_weighf_2 7 49 rfl)
theorem dX2_weigh_40 : decode cX2_weigh 40 = .ok (.invokevirtual 57, 3) := dk_182 (fdB_of (k := 32) tX2_weighf_2 8 182 rfl) (fdB_of (k := 32) tX2_weighf_2 9 0 rfl) (fdB_of (k := 32) tX2_weighf_2 10 57 rfl)
theorem dX2_weigh_43 : decode cX2_weigh 43 = .ok (.if_icmp .ge 85, 3) := dk_162 (fdB_of (k := 32) tX2_weighf_2 11 162 rfl) (fdB_of (k := 32) tX2_weighf_2 12 0 rfl) (fdB_of (k := 32) tX2_weighf_2 13 85 rfl) (by decide +kernel)
theorem dX2_weigh_46 : decode cX2_weigh 46 = .ok (.lconst 0, 1) := dk_9 (fdB_of (k := 32) tX2_weighf_2 14 9 rfl)
theorem dX2_weigh_47 : decode cX2_weigh 47 = .ok (.lstore 9, 2) := dk_55 (fdB_of (k := 32) tX2_weighf_2 15 55 rfl) (fdB_of (k := 48) tX2_weighf_3 0 9 rfl)
theorem dX2_weigh_49 : decode cX2_weigh 49 = .ok (.iload 5, 2) := dk_21 (fdB_of (k := 48) tX2_weighf_3 1 21 rfl) (fdB_of (k := 48) tX2_weighf_3 2 5 rfl)
theorem dX2_weigh_51 : decode cX2_weigh 51 = .ok (.ifCond .ne 17, 3) := dk_154 (fdB_of (k := 48) tX2_weighf_3 3 154 rfl) (fdB_of (k := 48) tX2_weighf_3 4 0 rfl) (fdB_of (k := 48) tX2_weighf_3 5 17 rfl) (by decide +kernel)
theorem dX2_weigh_54 : decode cX2_weigh 54 = .ok (.iload 8, 2) := dk_21 (fdB_of (k := 48) tX2_weighf_3 6 21 rfl) (fdB_of (k := 48) tX2_weighf_3 7 8 rfl)
theorem dX2_weigh_56 : decode cX2_weigh 56 = .ok (.aload_n 1, 1) := dk_43 (fdB_of (k := 48) tX2_weighf_3 8 43 rfl)
theorem dX2_weigh_57 : decode cX2_weigh 57 = .ok (.getfield 19, 3) := dk_180 (fdB_of (k := 48) tX2_weighf_3 9 180 rfl) (fdB_of (k := 48) tX2_weighf_3 10 0 rfl) (fdB_of (k := 48) tX2_weighf_3 11 19 rfl)
theorem dX2_weigh_60 : decode cX2_weigh 60 = .ok (.iload 4, 2) := dk_21 (fdB_of (k := 48) tX2_weighf_3 12 21 rfl) (fdB_of (k := 48) tX2_weighf_3 13 4 rfl)
theorem dX2_weigh_62 : decode cX2_weigh 62 = .ok (.invokevirtual 91, 3) := dk_182 (fdB_of (k := 48) tX2_weighf_3 14 182 rfl) (fdB_of (k := 48) tX2_weighf_3 15 0 rfl) (fdB_of (k := 64) tX2_weighf_4 0 91 rfl)
theorem dX2_weigh_65 : decode cX2_weigh 65 = .ok (.if_icmp .ne 47, 3) := dk_160 (fdB_of (k := 64) tX2_weighf_4 1 160 rfl) (fdB_of (k := 64) tX2_weighf_4 2 0 rfl) (fdB_of (k := 64) tX2_weighf_4 3 47 rfl) (by decide +kernel)
theorem dX2_weigh_68 : decode cX2_weigh 68 = .ok (.aload_n 1, 1) := dk_43 (fdB_of (k := 64) tX2_weighf_4 4 43 rfl)
theorem dX2_weigh_69 : decode cX2_weigh 69 = .ok (.iload 7, 2) := dk_21 (fdB_of (k := 64) tX2_weighf_4 5 21 rfl) (fdB_of (k := 64) tX2_weighf_4 6 7 rfl)
theorem dX2_weigh_71 : decode cX2_weigh 71 = .ok (.iload 8, 2) := dk_21 (fdB_of (k := 64) tX2_weighf_4 7 21 rfl) (fdB_of (k := 64) tX2_weighf_4 8 8 rfl)
theorem dX2_weigh_73 : decode cX2_weigh 73 = .ok (.aload_n 1, 1) := dk_43 (fdB_of (k := 64) tX2_weighf_4 9 43 rfl)
theorem dX2_weigh_74 : decode cX2_weigh 74 = .ok (.getfield 19, 3) := dk_180 (fdB_of (k := 64) tX2_weighf_4 10 180 rfl) (fdB_of (k := 64) tX2_weighf_4 11 0 rfl) (fdB_of (k := 64) tX2_weighf_4 12 19 rfl)
theorem dX2_weigh_77 : decode cX2_weigh 77 = .ok (.iload 4, 2) := dk_21 (fdB_of (k := 64) tX2_weighf_4 13 21 rfl) (fdB_of (k := 64) tX2_weighf_4 14 4 rfl)
theorem dX2_weigh_79 : decode cX2_weigh 79 = .ok (.invokevirtual 94, 3) := dk_182 (fdB_of (k := 64) tX2_weighf_4 15 182 rfl) (fdB_of (k := 80) tX2_weighf_5 0 0 rfl) (fdB_of (k := 80) tX2_weighf_5 1 94 rfl)
theorem dX2_weigh_82 : decode cX2_weigh 82 = .ok (.invokevirtual 97, 3) := dk_182 (fdB_of (k := 80) tX2_weighf_5 2 182 rfl) (fdB_of (k := 80) tX2_weighf_5 3 0 rfl) (fdB_of (k := 80) tX2_weighf_5 4 97 rfl)
theorem dX2_weigh_85 : decode cX2_weigh 85 = .ok (.ifCond .eq 27, 3) := dk_153 (fdB_of (k := 80) tX2_weighf_5 5 153 rfl) (fdB_of (k := 80) tX2_weighf_5 6 0 rfl) (fdB_of (k := 80) tX2_weighf_5 7 27 rfl) (by decide +kernel)
theorem dX2_weigh_88 : decode cX2_weigh 88 = .ok (.iload 6, 2) := dk_21 (fdB_of (k := 80) tX2_weighf_5 8 21 rfl) (fdB_of (k := 80) tX2_weighf_5 9 6 rfl)
theorem dX2_weigh_90 : decode cX2_weigh 90 = .ok (.ifCond .ge 7, 3) := dk_156 (fdB_of (k := 80) tX2_weighf_5 10 156 rfl) (fdB_of (k := 80) tX2_weighf_5 11 0 rfl) (fdB_of (k := 80) tX2_weighf_5 12 7 rfl) (by decide +kernel)
theorem dX2_weigh_93 : decode cX2_weigh 93 = .ok (.lconst 1, 1) := dk_10 (fdB_of (k := 80) tX2_weighf_5 13 10 rfl)
theorem dX2_weigh_94 : decode cX2_weigh 94 = .ok (.goto 16, 3) := dk_167 (fdB_of (k := 80) tX2_weighf_5 14 167 rfl) (fdB_of (k := 80) tX2_weighf_5 15 0 rfl) (fdB_of (k := 96) tX2_weighf_6 0 16 rfl) (by decide +kernel)
theorem dX2_weigh_97 : decode cX2_weigh 97 = .ok (.aload_n 0, 1) := dk_42 (fdB_of (k := 96) tX2_weighf_6 1 42 rfl)
theorem dX2_weigh_98 : decode cX2_weigh 98 = .ok (.aload_n 1, 1) := dk_43 (fdB_of (k := 96) tX2_weighf_6 2 43 rfl)
theorem dX2_weigh_99 : decode cX2_weigh 99 = .ok (.getfield 49, 3) := dk_180 (fdB_of (k := 96) tX2_weighf_6 3 180 rfl) (fdB_of (k := 96) tX2_weighf_6 4 0 rfl) (fdB_of (k := 96) tX2_weighf_6 5 49 rfl)
theorem dX2_weigh_102 : decode cX2_weigh 102 = .ok (.iload_n 3, 1) := dk_29 (fdB_of (k := 96) tX2_weighf_6 6 29 rfl)
theorem dX2_weigh_103 : decode cX2_weigh 103 = .ok (.iload 6, 2) := dk_21 (fdB_of (k := 96) tX2_weighf_6 7 21 rfl) (fdB_of (k := 96) tX2_weighf_6 8 6 rfl)
theorem dX2_weigh_105 : decode cX2_weigh 105 = .ok (.iload 8, 2) := dk_21 (fdB_of (k := 96) tX2_weighf_6 9 21 rfl) (fdB_of (k := 96) tX2_weighf_6 10 8 rfl)
theorem dX2_weigh_107 : decode cX2_weigh 107 = .ok (.invokevirtual 53, 3) := dk_182 (fdB_of (k := 96) tX2_weighf_6 11 182 rfl) (fdB_of (k := 96) tX2_weighf_6 12 0 rfl) (fdB_of (k := 96) tX2_weighf_6 13 53 rfl)
theorem dX2_weigh_110 : decode cX2_weigh 110 = .ok (.lstore 9, 2) := dk_55 (fdB_of (k := 96) tX2_weighf_6 14 55 rfl) (fdB_of (k := 96) tX2_weighf_6 15 9 rfl)
theorem dX2_weigh_112 : decode cX2_weigh 112 = .ok (.aload_n 0, 1) := dk_42 (fdB_of (k := 112) tX2_weighf_7 0 42 rfl)
theorem dX2_weigh_113 : decode cX2_weigh 113 = .ok (.iload 4, 2) := dk_21 (fdB_of (k := 112) tX2_weighf_7 1 21 rfl) (fdB_of (k := 112) tX2_weighf_7 2 4 rfl)
theorem dX2_weigh_115 : decode cX2_weigh 115 = .ok (.iload 8, 2) := dk_21 (fdB_of (k := 112) tX2_weighf_7 3 21 rfl) (fdB_of (k := 112) tX2_weighf_7 4 8 rfl)
theorem dX2_weigh_117 : decode cX2_weigh 117 = .ok (.lload 9, 2) := dk_22 (fdB_of (k := 112) tX2_weighf_7 5 22 rfl) (fdB_of (k := 112) tX2_weighf_7 6 9 rfl)
theorem dX2_weigh_119 : decode cX2_weigh 119 = .ok (.invokevirtual 101, 3) := dk_182 (fdB_of (k := 112) tX2_weighf_7 7 182 rfl) (fdB_of (k := 112) tX2_weighf_7 8 0 rfl) (fdB_of (k := 112) tX2_weighf_7 9 101 rfl)
theorem dX2_weigh_122 : decode cX2_weigh 122 = .ok (.iinc 8 1, 3) := dk_132 (fdB_of (k := 112) tX2_weighf_7 10 132 rfl) (fdB_of (k := 112) tX2_weighf_7 11 8 rfl) (fdB_of (k := 112) tX2_weighf_7 12 1 rfl) (by decide +kernel)
theorem dX2_weigh_125 : decode cX2_weigh 125 = .ok (.goto (-91), 3) := dk_167 (fdB_of (k := 112) tX2_weighf_7 13 167 rfl) (fdB_of (k := 112) tX2_weighf_7 14 255 rfl) (fdB_of (k := 112) tX2_weighf_7 15 165 rfl) (by decide +kernel)
theorem dX2_weigh_128 : decode cX2_weigh 128 = .ok (.return_, 1) := dk_177 (fdB_of (k := 128) tX2_weighf_8 0 177 rfl)

theorem q0_16 : Cond.selects RX2 yX2_sum yX2_sum ∈ TT := tq0 16 rfl rfl
theorem q0_18 : Cond.selects RX2 yX2_setWays yX2_setWays ∈ TT := tq0 18 rfl rfl
theorem q1_199 : Cond.fieldLink RX2 49 "RhymeLaw$Tale" "words" "LRhymeLaw$Words;" ∈ TT := tq1 199 rfl rfl
theorem q1_206 : Cond.fieldLink RX2 31 "RhymeLaw$Tale" "forms" "LRhymeLaw$Forms;" ∈ TT := tq1 206 rfl rfl
theorem q1_213 : Cond.fieldLink RX2 19 "RhymeLaw$Tale" "paper" "LRhymeLaw$Paper;" ∈ TT := tq1 213 rfl rfl
theorem q4_122 : Cond.methodLink RX2 25 yX4_size ∈ TT := tq4 122 rfl rfl
theorem q4_128 : Cond.methodLink RX2 84 yX1_behind ∈ TT := tq4 128 rfl rfl
theorem q4_129 : Cond.methodLink RX2 88 yX1_letter ∈ TT := tq4 129 rfl rfl
theorem q4_131 : Cond.methodLink RX2 91 yX4_wordAt ∈ TT := tq4 131 rfl rfl
theorem q4_132 : Cond.methodLink RX2 94 yX4_beforeAt ∈ TT := tq4 132 rfl rfl
theorem q4_133 : Cond.methodLink RX2 97 yX7_fits ∈ TT := tq4 133 rfl rfl
theorem q4_134 : Cond.methodLink RX2 53 yX2_sum ∈ TT := tq4 134 rfl rfl
theorem q4_136 : Cond.instanceMethod yX2_sum ∈ TT := tq4 136 rfl rfl
theorem q4_137 : Cond.code yX2_sum cX2_sum 8 (some .long) ∈ TT := tq4 137 rfl rfl
theorem q4_143 : Cond.methodLink RX2 101 yX2_setWays ∈ TT := tq4 143 rfl rfl
theorem q4_145 : Cond.instanceMethod yX2_setWays ∈ TT := tq4 145 rfl rfl
theorem q4_146 : Cond.code yX2_setWays cX2_setWays 6 none ∈ TT := tq4 146 rfl rfl
theorem lk_RX2_101 : vlk RX2 101 yX2_setWays cX2_setWays 6 none 3 := ⟨List.forall_mem_cons.mpr ⟨q4_143, List.forall_mem_cons.mpr ⟨q4_145, List.forall_mem_cons.mpr ⟨q0_18, List.forall_mem_cons.mpr ⟨q1_7, fun _ h => absurd h List.not_mem_nil⟩⟩⟩⟩, q4_146, by decide, by decide, by decide +kernel⟩
theorem fg_RX2_19 {p : Program} {l : Launch} {e : Env} {R : Room} {s : State} {m : MethodId} {args : Array Value} {below : List Frame} {meth : Method} {c : Code} {D : gG} {tys : List (ClassId × FieldType)} {A : Nat → Prop} {nL : Nat} {Q : State → Prop} {cells slots : Nat} {cc : ByteArray} {ws : va_W} {L : List (Nat × Value)} {pc : Nat} {stk : List Value} (cx : gX p s m args meth c cc nL RX2 D tys A) {a : Nat} {fs : List Value} {v : Value} (q0 : Nat) (he : ws[q0]? = some (a, .inr (5, fs))) (hv : fs[2]? = some v) (hd : decode cc pc = .ok (.getfield 19, 3)) (kk : gW p l e R s m args below meth c D A nL Q cells slots ws L (pc + 3) (v :: stk)) : gW p l e R s m args below meth c D A nL Q cells slots ws L pc (.ref a :: stk) :=
  g_get cx (C := RX7) (T := TX7) (N := 5) inT7 rfl 2 (Nat.le_of_ble_eq_true rfl) q1_213 rfl q0 he hv hd kk
theorem lk_RX2_94 : vlk RX2 94 yX4_beforeAt cX4_beforeAt 2 (some .int) 1 := ⟨List.forall_mem_cons.mpr ⟨q4_132, List.forall_mem_cons.mpr ⟨q3_9, List.forall_mem_cons.mpr ⟨q3_10, List.forall_mem_cons.mpr ⟨q1_4, fun _ h => absurd h List.not_mem_nil⟩⟩⟩⟩, q3_11, by decide, by decide, by decide +kernel⟩
theorem lk_RX2_97 : vlk RX2 97 yX7_fits cX7_fits 5 (some .boolean) 3 := ⟨List.forall_mem_cons.mpr ⟨q4_133, List.forall_mem_cons.mpr ⟨q3_130, List.forall_mem_cons.mpr ⟨q3_131, List.forall_mem_cons.mpr ⟨q1_9, fun _ h => absurd h List.not_mem_nil⟩⟩⟩⟩, q3_132, by decide, by decide, by decide +kernel⟩
theorem fg_RX2_49 {p : Program} {l : Launch} {e : Env} {R : Room} {s : State} {m : MethodId} {args : Array Value} {below : List Frame} {meth : Method} {c : Code} {D : gG} {tys : List (ClassId × FieldType)} {A : Nat → Prop} {nL : Nat} {Q : State → Prop} {cells slots : Nat} {cc : ByteArray} {ws : va_W} {L : List (Nat × Value)} {pc : Nat} {stk : List Value} (cx : gX p s m args meth c cc nL RX2 D tys A) {a : Nat} {fs : List Value} {v : Value} (q0 : Nat) (he : ws[q0]? = some (a, .inr (5, fs))) (hv : fs[0]? = some v) (hd : decode cc pc = .ok (.getfield 49, 3)) (kk : gW p l e R s m args below meth c D A nL Q cells slots ws L (pc + 3) (v :: stk)) : gW p l e R s m args below meth c D A nL Q cells slots ws L pc (.ref a :: stk) :=
  g_get cx (C := RX7) (T := TX7) (N := 5) inT7 rfl 0 (Nat.le_of_ble_eq_true rfl) q1_199 rfl q0 he hv hd kk
theorem lk_RX2_53 : vlk RX2 53 yX2_sum cX2_sum 8 (some .long) 4 := ⟨List.forall_mem_cons.mpr ⟨q4_134, List.forall_mem_cons.mpr ⟨q4_136, List.forall_mem_cons.mpr ⟨q0_16, List.forall_mem_cons.mpr ⟨q1_7, fun _ h => absurd h List.not_mem_nil⟩⟩⟩⟩, q4_137, by decide, by decide, by decide +kernel⟩
theorem lk_RX2_91 : vlk RX2 91 yX4_wordAt cX4_wordAt 2 (some .int) 1 := ⟨List.forall_mem_cons.mpr ⟨q4_131, List.forall_mem_cons.mpr ⟨q3_0, List.forall_mem_cons.mpr ⟨q3_1, List.forall_mem_cons.mpr ⟨q1_4, fun _ h => absurd h List.not_mem_nil⟩⟩⟩⟩, q3_2, by decide, by decide, by decide +kernel⟩
theorem fg_RX2_31 {p : Program} {l : Launch} {e : Env} {R : Room} {s : State} {m : MethodId} {args : Array Value} {below : List Frame} {meth : Method} {c : Code} {D : gG} {tys : List (ClassId × FieldType)} {A : Nat → Prop} {nL : Nat} {Q : State → Prop} {cells slots : Nat} {cc : ByteArray} {ws : va_W} {L : List (Nat × Value)} {pc : Nat} {stk : List Value} (cx : gX p s m args meth c cc nL RX2 D tys A) {a : Nat} {fs : List Value} {v : Value} (q0 : Nat) (he : ws[q0]? = some (a, .inr (5, fs))) (hv : fs[1]? = some v) (hd : decode cc pc = .ok (.getfield 31, 3)) (kk : gW p l e R s m args below meth c D A nL Q cells slots ws L (pc + 3) (v :: stk)) : gW p l e R s m args below meth c D A nL Q cells slots ws L pc (.ref a :: stk) :=
  g_get cx (C := RX7) (T := TX7) (N := 5) inT7 rfl 1 (Nat.le_of_ble_eq_true rfl) q1_206 rfl q0 he hv hd kk
theorem lk_RX2_25 : vlk RX2 25 yX4_size cX4_size 1 (some .int) 0 := ⟨List.forall_mem_cons.mpr ⟨q4_122, List.forall_mem_cons.mpr ⟨q2_231, List.forall_mem_cons.mpr ⟨q2_232, List.forall_mem_cons.mpr ⟨q1_4, fun _ h => absurd h List.not_mem_nil⟩⟩⟩⟩, q2_233, by decide, by decide, by decide +kernel⟩
theorem lk_RX2_84 : vlk RX2 84 yX1_behind cX1_behind 5 (some .int) 3 := ⟨List.forall_mem_cons.mpr ⟨q4_128, List.forall_mem_cons.mpr ⟨q3_239, List.forall_mem_cons.mpr ⟨q4_0, List.forall_mem_cons.mpr ⟨q1_11, fun _ h => absurd h List.not_mem_nil⟩⟩⟩⟩, q4_1, by decide, by decide, by decide +kernel⟩
theorem lk_RX2_88 : vlk RX2 88 yX1_letter cX1_letter 4 (some .int) 2 := ⟨List.forall_mem_cons.mpr ⟨q4_129, List.forall_mem_cons.mpr ⟨q3_53, List.forall_mem_cons.mpr ⟨q3_54, List.forall_mem_cons.mpr ⟨q1_11, fun _ h => absurd h List.not_mem_nil⟩⟩⟩⟩, q3_55, by decide, by decide, by decide +kernel⟩
def F_X2_weigh_b112 (s_a1 : S7) (s_a1_forms : S1) (s_a1_paper : S4) (s_a1_words : S10) (x2 : Int32) (x3 : Int32) (x4 : Int32) (x5 : Int32) (K34 : Int32 → Int32 → Int32 → S2 → Option (S2)) (v6 : Int32) (v7 : Int32) (v8 : Int32) (v9 : Int64) (zs_o : S2) : Option (S2) := (F_X2_setWays zs_o x4 v8 v9).bind fun q_1 => nm (v8 + 1) fun v8_2 => K34 v6 v7 v8_2 q_1
def F_X2_weigh_b110 (s_a1 : S7) (s_a1_forms : S1) (s_a1_paper : S4) (s_a1_words : S10) (x2 : Int32) (x3 : Int32) (x4 : Int32) (x5 : Int32) (K34 : Int32 → Int32 → Int32 → S2 → Option (S2)) (v6 : Int32) (v7 : Int32) (v8 : Int32) (zs_o : S2) (k0 : Int64) : Option (S2) := nm k0 fun v9_3 => F_X2_weigh_b112 s_a1 s_a1_forms s_a1_paper s_a1_words x2 x3 x4 x5 K34 v6 v7 v8 v9_3 zs_o
def F_X2_weigh_b68 (s_a1 : S7) (s_a1_forms : S1) (s_a1_paper : S4) (s_a1_words : S10) (x2 : Int32) (x3 : Int32) (x4 : Int32) (x5 : Int32) (K34 : Int32 → Int32 → Int32 → S2 → Option (S2)) (v6 : Int32) (v7 : Int32) (v8 : Int32) (v9 : Int64) (zs_o : S2) : Option (S2) := (F_X4_beforeAt s_a1_paper x4).bind fun q_4 => (F_X7_fits s_a1 s_a1_words v7 v8 q_4).bind fun q_5 => (if q_5 = 0 then F_X2_weigh_b112 s_a1 s_a1_forms s_a1_paper s_a1_words x2 x3 x4 x5 K34 v6 v7 v8 v9 zs_o else (if 0 ≤ v6 then (F_X2_sum s_a1_words zs_o x3 v6 v8).bind fun q_6 => F_X2_weigh_b110 s_a1 s_a1_forms s_a1_paper s_a1_words x2 x3 x4 x5 K34 v6 v7 v8 zs_o q_6 else F_X2_weigh_b110 s_a1 s_a1_forms s_a1_paper s_a1_words x2 x3 x4 x5 K34 v6 v7 v8 zs_o 1))
def F_X2_weigh_b34 (s_a1 : S7) (s_a1_forms : S1) (s_a1_paper : S4) (s_a1_words : S10) (x2 : Int32) (x3 : Int32) (x4 : Int32) (x5 : Int32) : Nat → Int32 → Int32 → Int32 → S2 → Option (S2)
  | 0, _, _, _, _ => none
  | n + 1, v6, v7, v8, zs_o => (F_X10_size s_a1_words).bind fun q_7 => (if q_7 ≤ v8 then some (zs_o) else nm 0 fun v9_8 => (if x5 = 0 then (F_X4_wordAt s_a1_paper x4).bind fun q_9 => (if v8 = q_9 then F_X2_weigh_b68 s_a1 s_a1_forms s_a1_paper s_a1_words x2 x3 x4 x5 (F_X2_weigh_b34 s_a1 s_a1_forms s_a1_paper s_a1_words x2 x3 x4 x5 n) v6 v7 v8 v9_8 zs_o else F_X2_weigh_b112 s_a1 s_a1_forms s_a1_paper s_a1_words x2 x3 x4 x5 (F_X2_weigh_b34 s_a1 s_a1_forms s_a1_paper s_a1_words x2 x3 x4 x5 n) v6 v7 v8 v9_8 zs_o) else F_X2_weigh_b68 s_a1 s_a1_forms s_a1_paper s_a1_words x2 x3 x4 x5 (F_X2_weigh_b34 s_a1 s_a1_forms s_a1_paper s_a1_words x2 x3 x4 x5 n) v6 v7 v8 v9_8 zs_o))
def F_X2_weigh (s_a1 : S7) (s_o : S2) (s_a1_forms : S1) (s_a1_paper : S4) (s_a1_words : S10) (x2 : Int32) (x3 : Int32) (x4 : Int32) (x5 : Int32) : Option (S2) := (F_X4_size s_a1_paper).bind fun q_10 => (F_X1_behind s_a1_forms x2 x4 q_10).bind fun q_11 => nm q_11 fun v6_12 => (F_X1_letter s_a1_forms x2 x4).bind fun q_13 => nm q_13 fun v7_14 => nm 0 fun v8_15 => F_X2_weigh_b34 s_a1 s_a1_forms s_a1_paper s_a1_words x2 x3 x4 x5 fu v6_12 v7_14 v8_15 s_o
def w_X2_weigh (a1 o a1_forms a1_paper a1_words a1_stock : Nat → Nat) (cB cI cJ cZ : ClassId) (s_a1 : S7) (s_o : S2) (s_a1_forms : S1) (s_a1_paper : S4) (s_a1_words : S10) : va_W := List.flatten [(gX7 a1 cB cI cJ cZ (a1_words 0) (a1_forms 0) (a1_paper 0) (a1_stock 0) s_a1), (gX2 o cB cI cJ cZ s_o), (gX1 a1_forms cB cI cJ cZ s_a1_forms), (gX4 a1_paper cB cI cJ cZ s_a1_paper), (gX10 a1_words cB cI cJ cZ s_a1_words)]
abbrev rm_X2_weigh : Room := { frames := 4, cells := 0, slots := 0, locals := 93 }
set_option maxHeartbeats 4000000 in
set_option maxRecDepth 100000 in
theorem c_X2_weigh (l : Launch) (D : gG) (cB cI cJ cZ : ClassId) (a1 o a1_forms a1_paper a1_words a1_stock : Nat → Nat) (s_a1 : S7) (s_o : S2) (s_a1_forms : S1) (s_a1_paper : S4) (s_a1_words : S10) (x2 : Int32) (x3 : Int32) (x4 : Int32) (x5 : Int32) (r : S2) (hf : F_X2_weigh s_a1 s_o s_a1_forms s_a1_paper s_a1_words x2 x3 x4 x5 = some r) : gM l D (tyL cB cI cJ cZ) yX2_weigh cX2_weigh 11 none rm_X2_weigh [.ref (o 0), .ref (a1 0), .int x2, .int x3, .int x4, .int x5] (w_X2_weigh a1 o a1_forms a1_paper a1_words a1_stock cB cI cJ cZ s_a1 s_o s_a1_forms s_a1_paper s_a1_words) none (w_X2_weigh a1 o a1_forms a1_paper a1_words a1_stock cB cI cJ cZ s_a1 r s_a1_forms s_a1_paper s_a1_words) := by
  refine met_of (by decide) (Nat.le_of_ble_eq_true rfl) ?_
  intro p e s m args below meth c A cx hr hA
  show gW p l e rm_X2_weigh s m args below meth c D A 11 _ 0 0 _ [(0, .ref (o 0)), (1, .ref (a1 0)), (2, .int x2), (3, .int x3), (4, .int x4), (5, .int x5)] 0 []
  have h112 : ∀ (K34 : Int32 → Int32 → Int32 → S2 → Option (S2)), (∀ (v6 : Int32) (v7 : Int32) (v8 : Int32) (zs_o : S2), K34 v6 v7 v8 zs_o = some r → gW p l e rm_X2_weigh s m args below meth c D A 11 (MQ below (QM D (tyL cB cI cJ cZ) none (w_X2_weigh a1 o a1_forms a1_paper a1_words a1_stock cB cI cJ cZ s_a1 s_o s_a1_forms s_a1_paper s_a1_words) (w_X2_weigh a1 o a1_forms a1_paper a1_words a1_stock cB cI cJ cZ s_a1 r s_a1_forms s_a1_paper s_a1_words) s.heap.size) args s 0 0 A) 0 0 (w_X2_weigh a1 o a1_forms a1_paper a1_words a1_stock cB cI cJ cZ s_a1 zs_o s_a1_forms s_a1_paper s_a1_words) [(0, .ref (o 0)), (1, .ref (a1 0)), (3, .int x3), (4, .int x4), (5, .int x5), (6, .int v6), (7, .int v7), (8, .int v8)] 34 []) → ∀ (v6 : Int32) (v7 : Int32) (v8 : Int32) (v9 : Int64) (zs_o : S2), F_X2_weigh_b112 s_a1 s_a1_forms s_a1_paper s_a1_words x2 x3 x4 x5 K34 v6 v7 v8 v9 zs_o = some r → gW p l e rm_X2_weigh s m args below meth c D A 11 (MQ below (QM D (tyL cB cI cJ cZ) none (w_X2_weigh a1 o a1_forms a1_paper a1_words a1_stock cB cI cJ cZ s_a1 s_o s_a1_forms s_a1_paper s_a1_words) (w_X2_weigh a1 o a1_forms a1_paper a1_words a1_stock cB cI cJ cZ s_a1 r s_a1_forms s_a1_paper s_a1_words) s.heap.size) args s 0 0 A) 0 0 (w_X2_weigh a1 o a1_forms a1_paper a1_words a1_stock cB cI cJ cZ s_a1 zs_o s_a1_forms s_a1_paper s_a1_words) [(0, .ref (o 0)), (1, .ref (a1 0)), (3, .int x3), (4, .int x4), (5, .int x5), (6, .int v6), (7, .int v7), (8, .int v8), (9, .long v9)] 112 [] := by
    intro K34 kh34 v6 v7 v8 v9 zs_o hf
    rw [F_X2_weigh_b112] at hf
    refine g_aln cx 0 dX2_weigh_112 rfl ?_
    refine g_il cx 3 dX2_weigh_113 rfl ?_
    refine g_il cx 7 dX2_weigh_115 rfl ?_
    refine g_ll cx 8 dX2_weigh_117 rfl ?_
    refine ob hf (fun q_1 hq_1 hf => ?_)
    refine g_callVGv (gs' := [(gX7 a1 cB cI cJ cZ (a1_words 0) (a1_forms 0) (a1_paper 0) (a1_stock 0) s_a1), (gX2 o cB cI cJ cZ q_1), (gX1 a1_forms cB cI cJ cZ s_a1_forms), (gX4 a1_paper cB cI cJ cZ s_a1_paper), (gX10 a1_words cB cI cJ cZ s_a1_words)]) cx lk_RX2_101 (c_X2_setWays l D cB cI cJ cZ o zs_o x4 v8 v9 q_1 hq_1) rfl [1] rfl rfl rfl rfl (ci := 2) (q1 := 0) rfl rfl rfl (Nat.le_of_ble_eq_true rfl) ⟨rfl, rfl, Nat.le_of_ble_eq_true rfl, Nat.le_of_ble_eq_true rfl⟩ dX2_weigh_119 ?_
    refine g_inc cx (L2 := fun v8_2 => [(8, .int v8_2), (0, .ref (o 0)), (1, .ref (a1 0)), (3, .int x3), (4, .int x4), (5, .int x5), (6, .int v6), (7, .int v7), (9, .long v9)]) 7 hf dX2_weigh_122 rfl (k_inc1 _) (Nat.le_of_ble_eq_true rfl) (fun _ => rfl) (fun v8_2 hf => ?_)
    refine g_goto (tgt := 34) cx dX2_weigh_125 rfl ?_
    refine g_sub [1, 2, 3, 4, 5, 6, 7, 0] rfl ?_
    exact kh34 _ _ _ _ hf
  have h110 : ∀ (K34 : Int32 → Int32 → Int32 → S2 → Option (S2)), (∀ (v6 : Int32) (v7 : Int32) (v8 : Int32) (zs_o : S2), K34 v6 v7 v8 zs_o = some r → gW p l e rm_X2_weigh s m args below meth c D A 11 (MQ below (QM D (tyL cB cI cJ cZ) none (w_X2_weigh a1 o a1_forms a1_paper a1_words a1_stock cB cI cJ cZ s_a1 s_o s_a1_forms s_a1_paper s_a1_words) (w_X2_weigh a1 o a1_forms a1_paper a1_words a1_stock cB cI cJ cZ s_a1 r s_a1_forms s_a1_paper s_a1_words) s.heap.size) args s 0 0 A) 0 0 (w_X2_weigh a1 o a1_forms a1_paper a1_words a1_stock cB cI cJ cZ s_a1 zs_o s_a1_forms s_a1_paper s_a1_words) [(0, .ref (o 0)), (1, .ref (a1 0)), (3, .int x3), (4, .int x4), (5, .int x5), (6, .int v6), (7, .int v7), (8, .int v8)] 34 []) → ∀ (v6 : Int32) (v7 : Int32) (v8 : Int32) (zs_o : S2) (k0 : Int64), F_X2_weigh_b110 s_a1 s_a1_forms s_a1_paper s_a1_words x2 x3 x4 x5 K34 v6 v7 v8 zs_o k0 = some r → gW p l e rm_X2_weigh s m args below meth c D A 11 (MQ below (QM D (tyL cB cI cJ cZ) none (w_X2_weigh a1 o a1_forms a1_paper a1_words a1_stock cB cI cJ cZ s_a1 s_o s_a1_forms s_a1_paper s_a1_words) (w_X2_weigh a1 o a1_forms a1_paper a1_words a1_stock cB cI cJ cZ s_a1 r s_a1_forms s_a1_paper s_a1_words) s.heap.size) args s 0 0 A) 0 0 (w_X2_weigh a1 o a1_forms a1_paper a1_words a1_stock cB cI cJ cZ s_a1 zs_o s_a1_forms s_a1_paper s_a1_words) [(0, .ref (o 0)), (1, .ref (a1 0)), (3, .int x3), (4, .int x4), (5, .int x5), (6, .int v6), (7, .int v7), (8, .int v8)] 110 [.long k0] := by
    intro K34 kh34 v6 v7 v8 zs_o k0 hf
    rw [F_X2_weigh_b110] at hf
    refine g_ls cx (L2 := fun v9_3 => [(9, .long v9_3), (0, .ref (o 0)), (1, .ref (a1 0)), (3, .int x3), (4, .int x4), (5, .int x5), (6, .int v6), (7, .int v7), (8, .int v8)]) hf dX2_weigh_110 (Nat.le_of_ble_eq_true rfl) (fun _ => rfl) (fun v9_3 hf => ?_)
    refine g_sub [1, 2, 3, 4, 5, 6, 7, 8, 0] rfl ?_
    exact h112 _ kh34 _ _ _ _ _ hf
  have h68 : ∀ (K34 : Int32 → Int32 → Int32 → S2 → Option (S2)), (∀ (v6 : Int32) (v7 : Int32) (v8 : Int32) (zs_o : S2), K34 v6 v7 v8 zs_o = some r → gW p l e rm_X2_weigh s m args below meth c D A 11 (MQ below (QM D (tyL cB cI cJ cZ) none (w_X2_weigh a1 o a1_forms a1_paper a1_words a1_stock cB cI cJ cZ s_a1 s_o s_a1_forms s_a1_paper s_a1_words) (w_X2_weigh a1 o a1_forms a1_paper a1_words a1_stock cB cI cJ cZ s_a1 r s_a1_forms s_a1_paper s_a1_words) s.heap.size) args s 0 0 A) 0 0 (w_X2_weigh a1 o a1_forms a1_paper a1_words a1_stock cB cI cJ cZ s_a1 zs_o s_a1_forms s_a1_paper s_a1_words) [(0, .ref (o 0)), (1, .ref (a1 0)), (3, .int x3), (4, .int x4), (5, .int x5), (6, .int v6), (7, .int v7), (8, .int v8)] 34 []) → ∀ (v6 : Int32) (v7 : Int32) (v8 : Int32) (v9 : Int64) (zs_o : S2), F_X2_weigh_b68 s_a1 s_a1_forms s_a1_paper s_a1_words x2 x3 x4 x5 K34 v6 v7 v8 v9 zs_o = some r → gW p l e rm_X2_weigh s m args below meth c D A 11 (MQ below (QM D (tyL cB cI cJ cZ) none (w_X2_weigh a1 o a1_forms a1_paper a1_words a1_stock cB cI cJ cZ s_a1 s_o s_a1_forms s_a1_paper s_a1_words) (w_X2_weigh a1 o a1_forms a1_paper a1_words a1_stock cB cI cJ cZ s_a1 r s_a1_forms s_a1_paper s_a1_words) s.heap.size) args s 0 0 A) 0 0 (w_X2_weigh a1 o a1_forms a1_paper a1_words a1_stock cB cI cJ cZ s_a1 zs_o s_a1_forms s_a1_paper s_a1_words) [(0, .ref (o 0)), (1, .ref (a1 0)), (3, .int x3), (4, .int x4), (5, .int x5), (6, .int v6), (7, .int v7), (8, .int v8), (9, .long v9)] 68 [] := by
    intro K34 kh34 v6 v7 v8 v9 zs_o hf
    rw [F_X2_weigh_b68] at hf
    refine g_aln cx 1 dX2_weigh_68 rfl ?_
    refine g_il cx 6 dX2_weigh_69 rfl ?_
    refine g_il cx 7 dX2_weigh_71 rfl ?_
    refine g_aln cx 1 dX2_weigh_73 rfl ?_
    refine fg_RX2_19 cx 0 rfl rfl dX2_weigh_74 ?_
    refine g_il cx 3 dX2_weigh_77 rfl ?_
    refine ob hf (fun q_4 hq_4 hf => ?_)
    refine g_callVGiR cx lk_RX2_94 (c_X4_beforeAt l D cB cI cJ cZ a1_paper s_a1_paper x4 q_4 hq_4) rfl [3] rfl rfl (ci := 4) (q1 := 0) rfl rfl rfl (Nat.le_of_ble_eq_true rfl) ⟨rfl, rfl, Nat.le_of_ble_eq_true rfl, Nat.le_of_ble_eq_true rfl⟩ dX2_weigh_79 ?_
    refine ob hf (fun q_5 hq_5 hf => ?_)
    refine g_callVGiR cx lk_RX2_97 (c_X7_fits l D cB cI cJ cZ a1 a1_words a1_forms a1_paper a1_stock s_a1 s_a1_words v7 v8 q_4 q_5 hq_5) rfl [0, 4] rfl rfl (ci := 5) (q1 := 0) rfl rfl rfl (Nat.le_of_ble_eq_true rfl) ⟨rfl, rfl, Nat.le_of_ble_eq_true rfl, Nat.le_of_ble_eq_true rfl⟩ dX2_weigh_82 ?_
    refine g_if_eq (tgt := 112) cx hf dX2_weigh_85 rfl (fun hf => ?_) (fun hf => ?_)
    · exact h112 _ kh34 _ _ _ _ _ hf
    · refine g_il cx 5 dX2_weigh_88 rfl ?_
      refine g_if_ge (tgt := 97) cx hf dX2_weigh_90 rfl (fun hf => ?_) (fun hf => ?_)
      · refine g_aln cx 0 dX2_weigh_97 rfl ?_
        refine g_aln cx 1 dX2_weigh_98 rfl ?_
        refine fg_RX2_49 cx 0 rfl rfl dX2_weigh_99 ?_
        refine g_iln cx 2 dX2_weigh_102 rfl ?_
        refine g_il cx 5 dX2_weigh_103 rfl ?_
        refine g_il cx 7 dX2_weigh_105 rfl ?_
        refine ob hf (fun q_6 hq_6 hf => ?_)
        refine g_callVGlR cx lk_RX2_53 (c_X2_sum l D cB cI cJ cZ a1_words o s_a1_words zs_o x3 v6 v8 q_6 hq_6) rfl [4, 1] rfl rfl (ci := 2) (q1 := 4) rfl rfl rfl (Nat.le_of_ble_eq_true rfl) ⟨rfl, rfl, Nat.le_of_ble_eq_true rfl, Nat.le_of_ble_eq_true rfl⟩ dX2_weigh_107 ?_
        refine g_sub [0, 1, 2, 3, 4, 5, 6, 7] rfl ?_
        exact h110 _ kh34 _ _ _ _ _ hf
      · refine g_lc cx dX2_weigh_93 rfl ?_
        refine g_goto (tgt := 110) cx dX2_weigh_94 rfl ?_
        refine g_sub [0, 1, 2, 3, 4, 5, 6, 7] rfl ?_
        exact h110 _ kh34 _ _ _ _ _ hf
  have h34 : ∀ (n : Nat) (v6 : Int32) (v7 : Int32) (v8 : Int32) (zs_o : S2), F_X2_weigh_b34 s_a1 s_a1_forms s_a1_paper s_a1_words x2 x3 x4 x5 n v6 v7 v8 zs_o = some r → gW p l e rm_X2_weigh s m args below meth c D A 11 (MQ below (QM D (tyL cB cI cJ cZ) none (w_X2_weigh a1 o a1_forms a1_paper a1_words a1_stock cB cI cJ cZ s_a1 s_o s_a1_forms s_a1_paper s_a1_words) (w_X2_weigh a1 o a1_forms a1_paper a1_words a1_stock cB cI cJ cZ s_a1 r s_a1_forms s_a1_paper s_a1_words) s.heap.size) args s 0 0 A) 0 0 (w_X2_weigh a1 o a1_forms a1_paper a1_words a1_stock cB cI cJ cZ s_a1 zs_o s_a1_forms s_a1_paper s_a1_words) [(0, .ref (o 0)), (1, .ref (a1 0)), (3, .int x3), (4, .int x4), (5, .int x5), (6, .int v6), (7, .int v7), (8, .int v8)] 34 [] := by
    intro n
    induction n with
    | zero => intro v6 v7 v8 zs_o hf; rw [F_X2_weigh_b34] at hf; cases hf
    | succ n ih =>
      intro v6 v7 v8 zs_o hf
      rw [F_X2_weigh_b34] at hf
      refine g_il cx 7 dX2_weigh_34 rfl ?_
      refine g_aln cx 1 dX2_weigh_36 rfl ?_
      refine fg_RX2_49 cx 0 rfl rfl dX2_weigh_37 ?_
      refine ob hf (fun q_7 hq_7 hf => ?_)
      refine g_callVGiR cx lk_RX2_57 (c_X10_size l D cB cI cJ cZ a1_words s_a1_words q_7 hq_7) rfl [4] rfl rfl (ci := 8) (q1 := 0) rfl rfl rfl (Nat.le_of_ble_eq_true rfl) ⟨rfl, rfl, Nat.le_of_ble_eq_true rfl, Nat.le_of_ble_eq_true rfl⟩ dX2_weigh_40 ?_
      refine g_ic_ge (tgt := 128) cx hf dX2_weigh_43 rfl (fun hf => ?_) (fun hf => ?_)
      · exact g_vret (ovf := fun (r : S2) => none) (wf := fun (r : S2) => (w_X2_weigh a1 o a1_forms a1_paper a1_words a1_stock cB cI cJ cZ s_a1 r s_a1_forms s_a1_paper s_a1_words)) cx hA hr hf rfl rfl dX2_weigh_128
      · refine g_lc cx dX2_weigh_46 rfl ?_
        refine g_ls cx (L2 := fun v9_8 => [(9, .long v9_8), (0, .ref (o 0)), (1, .ref (a1 0)), (3, .int x3), (4, .int x4), (5, .int x5), (6, .int v6), (7, .int v7), (8, .int v8)]) hf dX2_weigh_47 (Nat.le_of_ble_eq_true rfl) (fun _ => rfl) (fun v9_8 hf => ?_)
        refine g_il cx 5 dX2_weigh_49 rfl ?_
        refine g_if_ne (tgt := 68) cx hf dX2_weigh_51 rfl (fun hf => ?_) (fun hf => ?_)
        · refine g_sub [1, 2, 3, 4, 5, 6, 7, 8, 0] rfl ?_
          exact h68 _ ih _ _ _ _ _ hf
        · refine g_il cx 8 dX2_weigh_54 rfl ?_
          refine g_aln cx 2 dX2_weigh_56 rfl ?_
          refine fg_RX2_19 cx 0 rfl rfl dX2_weigh_57 ?_
          refine g_il cx 4 dX2_weigh_60 rfl ?_
          refine ob hf (fun q_9 hq_9 hf => ?_)
          refine g_callVGiR cx lk_RX2_91 (c_X4_wordAt l D cB cI cJ cZ a1_paper s_a1_paper x4 q_9 hq_9) rfl [3] rfl rfl (ci := 4) (q1 := 0) rfl rfl rfl (Nat.le_of_ble_eq_true rfl) ⟨rfl, rfl, Nat.le_of_ble_eq_true rfl, Nat.le_of_ble_eq_true rfl⟩ dX2_weigh_62 ?_
          refine g_ic_ne (tgt := 112) cx hf dX2_weigh_65 rfl (fun hf => ?_) (fun hf => ?_)
          · refine g_sub [1, 2, 3, 4, 5, 6, 7, 8, 0] rfl ?_
            exact h112 _ ih _ _ _ _ _ hf
          · refine g_sub [1, 2, 3, 4, 5, 6, 7, 8, 0] rfl ?_
            exact h68 _ ih _ _ _ _ _ hf
  rw [F_X2_weigh] at hf
  refine g_aln cx 1 dX2_weigh_0 rfl ?_
  refine fg_RX2_31 cx 0 rfl rfl dX2_weigh_1 ?_
  refine g_iln cx 2 dX2_weigh_4 rfl ?_
  refine g_il cx 4 dX2_weigh_5 rfl ?_
  refine g_aln cx 1 dX2_weigh_7 rfl ?_
  refine fg_RX2_19 cx 0 rfl rfl dX2_weigh_8 ?_
  refine ob hf (fun q_10 hq_10 hf => ?_)
  refine g_callVGiR cx lk_RX2_25 (c_X4_size l D cB cI cJ cZ a1_paper s_a1_paper q_10 hq_10) rfl [3] rfl rfl (ci := 4) (q1 := 0) rfl rfl rfl (Nat.le_of_ble_eq_true rfl) ⟨rfl, rfl, Nat.le_of_ble_eq_true rfl, Nat.le_of_ble_eq_true rfl⟩ dX2_weigh_11 ?_
  refine ob hf (fun q_11 hq_11 hf => ?_)
  refine g_callVGiR cx lk_RX2_84 (c_X1_behind l D cB cI cJ cZ a1_forms s_a1_forms x2 x4 q_10 q_11 hq_11) rfl [2] rfl rfl (ci := 1) (q1 := 0) rfl rfl rfl (Nat.le_of_ble_eq_true rfl) ⟨rfl, rfl, Nat.le_of_ble_eq_true rfl, Nat.le_of_ble_eq_true rfl⟩ dX2_weigh_14 ?_
  refine g_is cx (L2 := fun v6_12 => [(6, .int v6_12), (0, .ref (o 0)), (1, .ref (a1 0)), (2, .int x2), (3, .int x3), (4, .int x4), (5, .int x5)]) hf dX2_weigh_17 (Nat.le_of_ble_eq_true rfl) (fun _ => rfl) (fun v6_12 hf => ?_)
  refine g_aln cx 2 dX2_weigh_19 rfl ?_
  refine fg_RX2_31 cx 0 rfl rfl dX2_weigh_20 ?_
  refine g_iln cx 3 dX2_weigh_23 rfl ?_
  refine g_il cx 5 dX2_weigh_24 rfl ?_
  refine ob hf (fun q_13 hq_13 hf => ?_)
  refine g_callVGiR cx lk_RX2_88 (c_X1_letter l D cB cI cJ cZ a1_forms s_a1_forms x2 x4 q_13 hq_13) rfl [2] rfl rfl (ci := 1) (q1 := 0) rfl rfl rfl (Nat.le_of_ble_eq_true rfl) ⟨rfl, rfl, Nat.le_of_ble_eq_true rfl, Nat.le_of_ble_eq_true rfl⟩ dX2_weigh_26 ?_
  refine g_is cx (L2 := fun v7_14 => [(7, .int v7_14), (6, .int v6_12), (0, .ref (o 0)), (1, .ref (a1 0)), (2, .int x2), (3, .int x3), (4, .int x4), (5, .int x5)]) hf dX2_weigh_29 (Nat.le_of_ble_eq_true rfl) (fun _ => rfl) (fun v7_14 hf => ?_)
  refine g_ic cx dX2_weigh_31 k_ic0 ?_
  refine g_is cx (L2 := fun v8_15 => [(8, .int v8_15), (7, .int v7_14), (6, .int v6_12), (0, .ref (o 0)), (1, .ref (a1 0)), (2, .int x2), (3, .int x3), (4, .int x4), (5, .int x5)]) hf dX2_weigh_32 (Nat.le_of_ble_eq_true rfl) (fun _ => rfl) (fun v8_15 hf => ?_)
  refine g_sub [3, 4, 6, 7, 8, 2, 1, 0] rfl ?_
  exact h34 fu _ _ _ _ hf
theorem dX2_waysOf_0 : decode cX2_waysOf 0 = .ok (.aload_n 1, 1) := by decide +kernel
theorem dX2_waysOf_1 : decode cX2_waysOf 1 = .ok (.getfield 19, 3) := by decide +kernel
theorem dX2_waysOf_4 : decode cX2_waysOf 4 = .ok (.invokevirtual 25, 3) := by decide +kernel
theorem dX2_waysOf_7 : decode cX2_waysOf 7 = .ok (.istore 5, 2) := by decide +kernel
theorem dX2_waysOf_9 : decode cX2_waysOf 9 = .ok (.aload_n 1, 1) := by decide +kernel
theorem dX2_waysOf_10 : decode cX2_waysOf 10 = .ok (.getfield 31, 3) := by decide +kernel
theorem dX2_waysOf_13 : decode cX2_waysOf 13 = .ok (.iload_n 2, 1) := by decide +kernel
theorem dX2_waysOf_14 : decode cX2_waysOf 14 = .ok (.iload 5, 2) := by decide +kernel
theorem dX2_waysOf_16 : decode cX2_waysOf 16 = .ok (.invokevirtual 35, 3) := by decide +kernel
theorem dX2_waysOf_19 : decode cX2_waysOf 19 = .ok (.ifCond .ne 5, 3) := by decide +kernel
theorem dX2_waysOf_22 : decode cX2_waysOf 22 = .ok (.lconst 0, 1) := by decide +kernel
theorem dX2_waysOf_23 : decode cX2_waysOf 23 = .ok (.lreturn, 1) := by decide +kernel
theorem dX2_waysOf_24 : decode cX2_waysOf 24 = .ok (.lconst 1, 1) := by decide +kernel
theorem dX2_waysOf_25 : decode cX2_waysOf 25 = .ok (.lstore 6, 2) := by decide +kernel
theorem dX2_waysOf_27 : decode cX2_waysOf 27 = .ok (.iload 5, 2) := by decide +kernel
theorem dX2_waysOf_29 : decode cX2_waysOf 29 = .ok (.iconst 1, 1) := by decide +kernel
theorem dX2_waysOf_30 : decode cX2_waysOf 30 = .ok (.isub, 1) := by decide +kernel
theorem dX2_waysOf_31 : decode cX2_waysOf 31 = .ok (.istore 8, 2) := by decide +kernel
theorem dX2_waysOf_33 : decode cX2_waysOf 33 = .ok (.iload 8, 2) := by decide +kernel
theorem dX2_waysOf_35 : decode cX2_waysOf 35 = .ok (.ifCond .lt 63, 3) := by decide +kernel
theorem dX2_waysOf_38 : decode cX2_waysOf 38 = .ok (.aload_n 0, 1) := by decide +kernel
theorem dX2_waysOf_39 : decode cX2_waysOf 39 = .ok (.aload_n 1, 1) := by decide +kernel
theorem dX2_waysOf_40 : decode cX2_waysOf 40 = .ok (.iload_n 2, 1) := by decide +kernel
theorem dX2_waysOf_41 : decode cX2_waysOf 41 = .ok (.iload_n 3, 1) := by decide +kernel
theorem dX2_waysOf_42 : decode cX2_waysOf 42 = .ok (.iload 8, 2) := by decide +kernel
theorem dX2_waysOf_44 : decode cX2_waysOf 44 = .ok (.iload 4, 2) := by decide +kernel
theorem dX2_waysOf_46 : decode cX2_waysOf 46 = .ok (.iload 8, 2) := by decide +kernel
theorem dX2_waysOf_48 : decode cX2_waysOf 48 = .ok (.ishr, 1) := by decide +kernel
theorem dX2_waysOf_49 : decode cX2_waysOf 49 = .ok (.iconst 1, 1) := by decide +kernel
theorem dX2_waysOf_50 : decode cX2_waysOf 50 = .ok (.iand, 1) := by decide +kernel
theorem dX2_waysOf_51 : decode cX2_waysOf 51 = .ok (.ifCond .eq 7, 3) := by decide +kernel
theorem dX2_waysOf_54 : decode cX2_waysOf 54 = .ok (.iconst 1, 1) := by decide +kernel
theorem dX2_waysOf_55 : decode cX2_waysOf 55 = .ok (.goto 4, 3) := by decide +kernel
theorem dX2_waysOf_58 : decode cX2_waysOf 58 = .ok (.iconst 0, 1) := by decide +kernel
theorem dX2_waysOf_59 : decode cX2_waysOf 59 = .ok (.invokevirtual 41, 3) := by decide +kernel
theorem dX2_waysOf_62 : decode cX2_waysOf 62 = .ok (.aload_n 1, 1) := by decide +kernel
theorem dX2_waysOf_63 : decode cX2_waysOf 63 = .ok (.getfield 31, 3) := by decide +kernel
theorem dX2_waysOf_66 : decode cX2_waysOf 66 = .ok (.iload_n 2, 1) := by decide +kernel
theorem dX2_waysOf_67 : decode cX2_waysOf 67 = .ok (.iload 8, 2) := by decide +kernel
theorem dX2_waysOf_69 : decode cX2_waysOf 69 = .ok (.invokevirtual 45, 3) := by decide +kernel
theorem dX2_waysOf_72 : decode cX2_waysOf 72 = .ok (.ifCond .ge 20, 3) := by decide +kernel
theorem dX2_waysOf_75 : decode cX2_waysOf 75 = .ok (.lload 6, 2) := by decide +kernel
theorem dX2_waysOf_77 : decode cX2_waysOf 77 = .ok (.aload_n 0, 1) := by decide +kernel
theorem dX2_waysOf_78 : decode cX2_waysOf 78 = .ok (.aload_n 1, 1) := by decide +kernel
theorem dX2_waysOf_79 : decode cX2_waysOf 79 = .ok (.getfield 49, 3) := by decide +kernel
theorem dX2_waysOf_82 : decode cX2_waysOf 82 = .ok (.iload_n 3, 1) := by decide +kernel
theorem dX2_waysOf_83 : decode cX2_waysOf 83 = .ok (.iload 8, 2) := by decide +kernel
theorem dX2_waysOf_85 : decode cX2_waysOf 85 = .ok (.iconst (-1), 1) := by decide +kernel
theorem dX2_waysOf_86 : decode cX2_waysOf 86 = .ok (.invokevirtual 53, 3) := by decide +kernel
theorem dX2_waysOf_89 : decode cX2_waysOf 89 = .ok (.lmul, 1) := by decide +kernel
theorem dX2_waysOf_90 : decode cX2_waysOf 90 = .ok (.lstore 6, 2) := by decide +kernel
theorem dX2_waysOf_92 : decode cX2_waysOf 92 = .ok (.iinc 8 (-1), 3) := by decide +kernel
theorem dX2_waysOf_95 : decode cX2_waysOf 95 = .ok (.goto (-62), 3) := by decide +kernel
theorem dX2_waysOf_98 : decode cX2_waysOf 98 = .ok (.lload 6, 2) := by decide +kernel
theorem dX2_waysOf_100 : decode cX2_waysOf 100 = .ok (.lreturn, 1) := by decide +kernel
theorem q0_15 : Cond.selects RX2 yX2_weigh yX2_weigh ∈ TT := tq0 15 rfl rfl
theorem q4_123 : Cond.methodLink RX2 35 yX1_pairs ∈ TT := tq4 123 rfl rfl
theorem q4_124 : Cond.methodLink RX2 41 yX2_weigh ∈ TT := tq4 124 rfl rfl
theorem q4_126 : Cond.instanceMethod yX2_weigh ∈ TT := tq4 126 rfl rfl
theorem q4_127 : Cond.code yX2_weigh cX2_weigh 11 none ∈ TT := tq4 127 rfl rfl
theorem q4_147 : Cond.methodLink RX2 45 yX1_ahead ∈ TT := tq4 147 rfl rfl
theorem lk_RX2_41 : vlk RX2 41 yX2_weigh cX2_weigh 11 none 5 := ⟨List.forall_mem_cons.mpr ⟨q4_124, List.forall_mem_cons.mpr ⟨q4_126, List.forall_mem_cons.mpr ⟨q0_15, List.forall_mem_cons.mpr ⟨q1_7, fun _ h => absurd h List.not_mem_nil⟩⟩⟩⟩, q4_127, by decide, by decide, by decide +kernel⟩
theorem lk_RX2_45 : vlk RX2 45 yX1_ahead cX1_ahead 4 (some .int) 2 := ⟨List.forall_mem_cons.mpr ⟨q4_147, List.forall_mem_cons.mpr ⟨q3_234, List.forall_mem_cons.mpr ⟨q3_235, List.forall_mem_cons.mpr ⟨q1_11, fun _ h => absurd h List.not_mem_nil⟩⟩⟩⟩, q3_236, by decide, by decide, by decide +kernel⟩
theorem lk_RX2_35 : vlk RX2 35 yX1_pairs cX1_pairs 4 (some .boolean) 2 := ⟨List.forall_mem_cons.mpr ⟨q4_123, List.forall_mem_cons.mpr ⟨q3_230, List.forall_mem_cons.mpr ⟨q3_231, List.forall_mem_cons.mpr ⟨q1_11, fun _ h => absurd h List.not_mem_nil⟩⟩⟩⟩, q3_232, by decide, by decide, by decide +kernel⟩
def F_X2_waysOf_b92 (s_a1 : S7) (s_a1_forms : S1) (s_a1_paper : S4) (s_a1_words : S10) (x2 : Int32) (x3 : Int32) (x4 : Int32) (K33 : Int64 → Int32 → S2 → Option (Int64 × S2)) (v6 : Int64) (v8 : Int32) (zs_o : S2) : Option (Int64 × S2) := nm (v8 - 1) fun v8_1 => K33 v6 v8_1 zs_o
def F_X2_waysOf_b59 (s_a1 : S7) (s_a1_forms : S1) (s_a1_paper : S4) (s_a1_words : S10) (x2 : Int32) (x3 : Int32) (x4 : Int32) (K33 : Int64 → Int32 → S2 → Option (Int64 × S2)) (v6 : Int64) (v8 : Int32) (zs_o : S2) (k2 : Int32) (k3 : Int32) (k4 : Int32) (k5 : Int32) : Option (Int64 × S2) := (F_X2_weigh s_a1 zs_o s_a1_forms s_a1_paper s_a1_words k2 k3 k4 k5).bind fun q_2 => (F_X1_ahead s_a1_forms x2 v8).bind fun q_3 => (if 0 ≤ q_3 then F_X2_waysOf_b92 s_a1 s_a1_forms s_a1_paper s_a1_words x2 x3 x4 K33 v6 v8 q_2 else (F_X2_sum s_a1_words q_2 x3 v8 (-1)).bind fun q_4 => nm (v6 * q_4) fun v6_5 => F_X2_waysOf_b92 s_a1 s_a1_forms s_a1_paper s_a1_words x2 x3 x4 K33 v6_5 v8 q_2)
def F_X2_waysOf_b33 (s_a1 : S7) (s_a1_forms : S1) (s_a1_paper : S4) (s_a1_words : S10) (x2 : Int32) (x3 : Int32) (x4 : Int32) : Nat → Int64 → Int32 → S2 → Option (Int64 × S2)
  | 0, _, _, _ => none
  | n + 1, v6, v8, zs_o => (if v8 < 0 then some (v6, zs_o) else (if ((x4 >>> (v8 &&& 31)) &&& 1) = 0 then F_X2_waysOf_b59 s_a1 s_a1_forms s_a1_paper s_a1_words x2 x3 x4 (F_X2_waysOf_b33 s_a1 s_a1_forms s_a1_paper s_a1_words x2 x3 x4 n) v6 v8 zs_o x2 x3 v8 0 else F_X2_waysOf_b59 s_a1 s_a1_forms s_a1_paper s_a1_words x2 x3 x4 (F_X2_waysOf_b33 s_a1 s_a1_forms s_a1_paper s_a1_words x2 x3 x4 n) v6 v8 zs_o x2 x3 v8 1))
def F_X2_waysOf (s_a1 : S7) (s_o : S2) (s_a1_forms : S1) (s_a1_paper : S4) (s_a1_words : S10) (x2 : Int32) (x3 : Int32) (x4 : Int32) : Option (Int64 × S2) := (F_X4_size s_a1_paper).bind fun q_6 => nm q_6 fun v5_7 => (F_X1_pairs s_a1_forms x2 v5_7).bind fun q_8 => (if q_8 = 0 then some (0, s_o) else nm 1 fun v6_9 => nm (v5_7 - 1) fun v8_10 => F_X2_waysOf_b33 s_a1 s_a1_forms s_a1_paper s_a1_words x2 x3 x4 fu v6_9 v8_10 s_o)
def w_X2_waysOf (a1 o a1_forms a1_paper a1_words a1_stock : Nat → Nat) (cB cI cJ cZ : ClassId) (s_a1 : S7) (s_o : S2) (s_a1_forms : S1) (s_a1_paper : S4) (s_a1_words : S10) : va_W := List.flatten [(gX7 a1 cB cI cJ cZ (a1_words 0) (a1_forms 0) (a1_paper 0) (a1_stock 0) s_a1), (gX2 o cB cI cJ cZ s_o), (gX1 a1_forms cB cI cJ cZ s_a1_forms), (gX4 a1_paper cB cI cJ cZ s_a1_paper), (gX10 a1_words cB cI cJ cZ s_a1_words)]
abbrev rm_X2_waysOf : Room := { frames := 5, cells := 0, slots := 0, locals := 123 }
set_option maxHeartbeats 4000000 in
set_option maxRecDepth 100000 in
theorem c_X2_waysOf (l : Launch) (D : gG) (cB cI cJ cZ : ClassId) (a1 o a1_forms a1_paper a1_words a1_stock : Nat → Nat) (s_a1 : S7) (s_o : S2) (s_a1_forms : S1) (s_a1_paper : S4) (s_a1_words : S10) (x2 : Int32) (x3 : Int32) (x4 : Int32) (r : Int64 × S2) (hf : F_X2_waysOf s_a1 s_o s_a1_forms s_a1_paper s_a1_words x2 x3 x4 = some r) : gM l D (tyL cB cI cJ cZ) yX2_waysOf cX2_waysOf 9 (some .long) rm_X2_waysOf [.ref (o 0), .ref (a1 0), .int x2, .int x3, .int x4] (w_X2_waysOf a1 o a1_forms a1_paper a1_words a1_stock cB cI cJ cZ s_a1 s_o s_a1_forms s_a1_paper s_a1_words) (some (.long r.1)) (w_X2_waysOf a1 o a1_forms a1_paper a1_words a1_stock cB cI cJ cZ s_a1 r.2 s_a1_forms s_a1_paper s_a1_words) := by
  refine met_of (by decide) (Nat.le_of_ble_eq_true rfl) ?_
  intro p e s m args below meth c A cx hr hA
  show gW p l e rm_X2_waysOf s m args below meth c D A 9 _ 0 0 _ [(0, .ref (o 0)), (1, .ref (a1 0)), (2, .int x2), (3, .int x3), (4, .int x4)] 0 []
  have h92 : ∀ (K33 : Int64 → Int32 → S2 → Option (Int64 × S2)), (∀ (v6 : Int64) (v8 : Int32) (zs_o : S2), K33 v6 v8 zs_o = some r → gW p l e rm_X2_waysOf s m args below meth c D A 9 (MQ below (QM D (tyL cB cI cJ cZ) (some (.long r.1)) (w_X2_waysOf a1 o a1_forms a1_paper a1_words a1_stock cB cI cJ cZ s_a1 s_o s_a1_forms s_a1_paper s_a1_words) (w_X2_waysOf a1 o a1_forms a1_paper a1_words a1_stock cB cI cJ cZ s_a1 r.2 s_a1_forms s_a1_paper s_a1_words) s.heap.size) args s 0 0 A) 0 0 (w_X2_waysOf a1 o a1_forms a1_paper a1_words a1_stock cB cI cJ cZ s_a1 zs_o s_a1_forms s_a1_paper s_a1_words) [(0, .ref (o 0)), (1, .ref (a1 0)), (2, .int x2), (3, .int x3), (4, .int x4), (6, .long v6), (8, .int v8)] 33 []) → ∀ (v6 : Int64) (v8 : Int32) (zs_o : S2), F_X2_waysOf_b92 s_a1 s_a1_forms s_a1_paper s_a1_words x2 x3 x4 K33 v6 v8 zs_o = some r → gW p l e rm_X2_waysOf s m args below meth c D A 9 (MQ below (QM D (tyL cB cI cJ cZ) (some (.long r.1)) (w_X2_waysOf a1 o a1_forms a1_paper a1_words a1_stock cB cI cJ cZ s_a1 s_o s_a1_forms s_a1_paper s_a1_words) (w_X2_waysOf a1 o a1_forms a1_paper a1_words a1_stock cB cI cJ cZ s_a1 r.2 s_a1_forms s_a1_paper s_a1_words) s.heap.size) args s 0 0 A) 0 0 (w_X2_waysOf a1 o a1_forms a1_paper a1_words a1_stock cB cI cJ cZ s_a1 zs_o s_a1_forms s_a1_paper s_a1_words) [(0, .ref (o 0)), (1, .ref (a1 0)), (2, .int x2), (3, .int x3), (4, .int x4), (6, .long v6), (8, .int v8)] 92 [] := by
    intro K33 kh33 v6 v8 zs_o hf
    rw [F_X2_waysOf_b92] at hf
    refine g_inc cx (L2 := fun v8_1 => [(8, .int v8_1), (0, .ref (o 0)), (1, .ref (a1 0)), (2, .int x2), (3, .int x3), (4, .int x4), (6, .long v6)]) 6 hf dX2_waysOf_92 rfl (k_incm1 _) (Nat.le_of_ble_eq_true rfl) (fun _ => rfl) (fun v8_1 hf => ?_)
    refine g_goto (tgt := 33) cx dX2_waysOf_95 rfl ?_
    refine g_sub [1, 2, 3, 4, 5, 6, 0] rfl ?_
    exact kh33 _ _ _ hf
  have h59 : ∀ (K33 : Int64 → Int32 → S2 → Option (Int64 × S2)), (∀ (v6 : Int64) (v8 : Int32) (zs_o : S2), K33 v6 v8 zs_o = some r → gW p l e rm_X2_waysOf s m args below meth c D A 9 (MQ below (QM D (tyL cB cI cJ cZ) (some (.long r.1)) (w_X2_waysOf a1 o a1_forms a1_paper a1_words a1_stock cB cI cJ cZ s_a1 s_o s_a1_forms s_a1_paper s_a1_words) (w_X2_waysOf a1 o a1_forms a1_paper a1_words a1_stock cB cI cJ cZ s_a1 r.2 s_a1_forms s_a1_paper s_a1_words) s.heap.size) args s 0 0 A) 0 0 (w_X2_waysOf a1 o a1_forms a1_paper a1_words a1_stock cB cI cJ cZ s_a1 zs_o s_a1_forms s_a1_paper s_a1_words) [(0, .ref (o 0)), (1, .ref (a1 0)), (2, .int x2), (3, .int x3), (4, .int x4), (6, .long v6), (8, .int v8)] 33 []) → ∀ (v6 : Int64) (v8 : Int32) (zs_o : S2) (k2 : Int32) (k3 : Int32) (k4 : Int32) (k5 : Int32), F_X2_waysOf_b59 s_a1 s_a1_forms s_a1_paper s_a1_words x2 x3 x4 K33 v6 v8 zs_o k2 k3 k4 k5 = some r → gW p l e rm_X2_waysOf s m args below meth c D A 9 (MQ below (QM D (tyL cB cI cJ cZ) (some (.long r.1)) (w_X2_waysOf a1 o a1_forms a1_paper a1_words a1_stock cB cI cJ cZ s_a1 s_o s_a1_forms s_a1_paper s_a1_words) (w_X2_waysOf a1 o a1_forms a1_paper a1_words a1_stock cB cI cJ cZ s_a1 r.2 s_a1_forms s_a1_paper s_a1_words) s.heap.size) args s 0 0 A) 0 0 (w_X2_waysOf a1 o a1_forms a1_paper a1_words a1_stock cB cI cJ cZ s_a1 zs_o s_a1_forms s_a1_paper s_a1_words) [(0, .ref (o 0)), (1, .ref (a1 0)), (2, .int x2), (3, .int x3), (4, .int x4), (6, .long v6), (8, .int v8)] 59 [.int k5, .int k4, .int k3, .int k2, .ref (a1 0), .ref (o 0)] := by
    intro K33 kh33 v6 v8 zs_o k2 k3 k4 k5 hf
    rw [F_X2_waysOf_b59] at hf
    refine ob hf (fun q_2 hq_2 hf => ?_)
    refine g_callVGv (gs' := [(gX7 a1 cB cI cJ cZ (a1_words 0) (a1_forms 0) (a1_paper 0) (a1_stock 0) s_a1), (gX2 o cB cI cJ cZ q_2), (gX1 a1_forms cB cI cJ cZ s_a1_forms), (gX4 a1_paper cB cI cJ cZ s_a1_paper), (gX10 a1_words cB cI cJ cZ s_a1_words)]) cx lk_RX2_41 (c_X2_weigh l D cB cI cJ cZ a1 o a1_forms a1_paper a1_words a1_stock s_a1 zs_o s_a1_forms s_a1_paper s_a1_words k2 k3 k4 k5 q_2 hq_2) rfl [0, 1, 2, 3, 4] rfl rfl rfl rfl (ci := 2) (q1 := 2) rfl rfl rfl (Nat.le_of_ble_eq_true rfl) ⟨rfl, rfl, Nat.le_of_ble_eq_true rfl, Nat.le_of_ble_eq_true rfl⟩ dX2_waysOf_59 ?_
    refine g_aln cx 1 dX2_waysOf_62 rfl ?_
    refine fg_RX2_31 cx 0 rfl rfl dX2_waysOf_63 ?_
    refine g_iln cx 2 dX2_waysOf_66 rfl ?_
    refine g_il cx 6 dX2_waysOf_67 rfl ?_
    refine ob hf (fun q_3 hq_3 hf => ?_)
    refine g_callVGiR cx lk_RX2_45 (c_X1_ahead l D cB cI cJ cZ a1_forms s_a1_forms x2 v8 q_3 hq_3) rfl [2] rfl rfl (ci := 1) (q1 := 0) rfl rfl rfl (Nat.le_of_ble_eq_true rfl) ⟨rfl, rfl, Nat.le_of_ble_eq_true rfl, Nat.le_of_ble_eq_true rfl⟩ dX2_waysOf_69 ?_
    refine g_if_ge (tgt := 92) cx hf dX2_waysOf_72 rfl (fun hf => ?_) (fun hf => ?_)
    · exact h92 _ kh33 _ _ _ hf
    · refine g_ll cx 5 dX2_waysOf_75 rfl ?_
      refine g_aln cx 0 dX2_waysOf_77 rfl ?_
      refine g_aln cx 1 dX2_waysOf_78 rfl ?_
      refine fg_RX2_49 cx 0 rfl rfl dX2_waysOf_79 ?_
      refine g_iln cx 3 dX2_waysOf_82 rfl ?_
      refine g_il cx 6 dX2_waysOf_83 rfl ?_
      refine g_ic cx dX2_waysOf_85 k_icm1 ?_
      refine ob hf (fun q_4 hq_4 hf => ?_)
      refine g_callVGlR cx lk_RX2_53 (c_X2_sum l D cB cI cJ cZ a1_words o s_a1_words q_2 x3 v8 (-1) q_4 hq_4) rfl [4, 1] rfl rfl (ci := 2) (q1 := 4) rfl rfl rfl (Nat.le_of_ble_eq_true rfl) ⟨rfl, rfl, Nat.le_of_ble_eq_true rfl, Nat.le_of_ble_eq_true rfl⟩ dX2_waysOf_86 ?_
      refine g_lmul cx dX2_waysOf_89 ?_
      refine g_ls cx (L2 := fun v6_5 => [(6, .long v6_5), (0, .ref (o 0)), (1, .ref (a1 0)), (2, .int x2), (3, .int x3), (4, .int x4), (8, .int v8)]) hf dX2_waysOf_90 (Nat.le_of_ble_eq_true rfl) (fun _ => rfl) (fun v6_5 hf => ?_)
      refine g_sub [1, 2, 3, 4, 5, 0, 6] rfl ?_
      exact h92 _ kh33 _ _ _ hf
  have h33 : ∀ (n : Nat) (v6 : Int64) (v8 : Int32) (zs_o : S2), F_X2_waysOf_b33 s_a1 s_a1_forms s_a1_paper s_a1_words x2 x3 x4 n v6 v8 zs_o = some r → gW p l e rm_X2_waysOf s m args below meth c D A 9 (MQ below (QM D (tyL cB cI cJ cZ) (some (.long r.1)) (w_X2_waysOf a1 o a1_forms a1_paper a1_words a1_stock cB cI cJ cZ s_a1 s_o s_a1_forms s_a1_paper s_a1_words) (w_X2_waysOf a1 o a1_forms a1_paper a1_words a1_stock cB cI cJ cZ s_a1 r.2 s_a1_forms s_a1_paper s_a1_words) s.heap.size) args s 0 0 A) 0 0 (w_X2_waysOf a1 o a1_forms a1_paper a1_words a1_stock cB cI cJ cZ s_a1 zs_o s_a1_forms s_a1_paper s_a1_words) [(0, .ref (o 0)), (1, .ref (a1 0)), (2, .int x2), (3, .int x3), (4, .int x4), (6, .long v6), (8, .int v8)] 33 [] := by
    intro n
    induction n with
    | zero => intro v6 v8 zs_o hf; rw [F_X2_waysOf_b33] at hf; cases hf
    | succ n ih =>
      intro v6 v8 zs_o hf
      rw [F_X2_waysOf_b33] at hf
      refine g_il cx 6 dX2_waysOf_33 rfl ?_
      refine g_if_lt (tgt := 98) cx hf dX2_waysOf_35 rfl (fun hf => ?_) (fun hf => ?_)
      · refine g_ll cx 5 dX2_waysOf_98 rfl ?_
        exact g_lret (ovf := fun (r : Int64 × S2) => (some (.long r.1))) (wf := fun (r : Int64 × S2) => (w_X2_waysOf a1 o a1_forms a1_paper a1_words a1_stock cB cI cJ cZ s_a1 r.2 s_a1_forms s_a1_paper s_a1_words)) cx hA hr hf rfl rfl dX2_waysOf_100
      · refine g_aln cx 0 dX2_waysOf_38 rfl ?_
        refine g_aln cx 1 dX2_waysOf_39 rfl ?_
        refine g_iln cx 2 dX2_waysOf_40 rfl ?_
        refine g_iln cx 3 dX2_waysOf_41 rfl ?_
        refine g_il cx 6 dX2_waysOf_42 rfl ?_
        refine g_il cx 4 dX2_waysOf_44 rfl ?_
        refine g_il cx 6 dX2_waysOf_46 rfl ?_
        refine g_ishr cx dX2_waysOf_48 ?_
        refine g_ic cx dX2_waysOf_49 k_ic1 ?_
        refine g_iand cx dX2_waysOf_50 ?_
        refine g_if_eq (tgt := 58) cx hf dX2_waysOf_51 rfl (fun hf => ?_) (fun hf => ?_)
        · refine g_ic cx dX2_waysOf_58 k_ic0 ?_
          exact h59 _ ih _ _ _ _ _ _ _ hf
        · refine g_ic cx dX2_waysOf_54 k_ic1 ?_
          refine g_goto (tgt := 59) cx dX2_waysOf_55 rfl ?_
          exact h59 _ ih _ _ _ _ _ _ _ hf
  rw [F_X2_waysOf] at hf
  refine g_aln cx 1 dX2_waysOf_0 rfl ?_
  refine fg_RX2_19 cx 0 rfl rfl dX2_waysOf_1 ?_
  refine ob hf (fun q_6 hq_6 hf => ?_)
  refine g_callVGiR cx lk_RX2_25 (c_X4_size l D cB cI cJ cZ a1_paper s_a1_paper q_6 hq_6) rfl [3] rfl rfl (ci := 4) (q1 := 0) rfl rfl rfl (Nat.le_of_ble_eq_true rfl) ⟨rfl, rfl, Nat.le_of_ble_eq_true rfl, Nat.le_of_ble_eq_true rfl⟩ dX2_waysOf_4 ?_
  refine g_is cx (L2 := fun v5_7 => [(5, .int v5_7), (0, .ref (o 0)), (1, .ref (a1 0)), (2, .int x2), (3, .int x3), (4, .int x4)]) hf dX2_waysOf_7 (Nat.le_of_ble_eq_true rfl) (fun _ => rfl) (fun v5_7 hf => ?_)
  refine g_aln cx 2 dX2_waysOf_9 rfl ?_
  refine fg_RX2_31 cx 0 rfl rfl dX2_waysOf_10 ?_
  refine g_iln cx 3 dX2_waysOf_13 rfl ?_
  refine g_il cx 0 dX2_waysOf_14 rfl ?_
  refine ob hf (fun q_8 hq_8 hf => ?_)
  refine g_callVGiR cx lk_RX2_35 (c_X1_pairs l D cB cI cJ cZ a1_forms s_a1_forms x2 v5_7 q_8 hq_8) rfl [2] rfl rfl (ci := 1) (q1 := 0) rfl rfl rfl (Nat.le_of_ble_eq_true rfl) ⟨rfl, rfl, Nat.le_of_ble_eq_true rfl, Nat.le_of_ble_eq_true rfl⟩ dX2_waysOf_16 ?_
  refine g_if_ne (tgt := 24) cx hf dX2_waysOf_19 rfl (fun hf => ?_) (fun hf => ?_)
  · refine g_lc cx dX2_waysOf_24 rfl ?_
    refine g_ls cx (L2 := fun v6_9 => [(6, .long v6_9), (5, .int v5_7), (0, .ref (o 0)), (1, .ref (a1 0)), (2, .int x2), (3, .int x3), (4, .int x4)]) hf dX2_waysOf_25 (Nat.le_of_ble_eq_true rfl) (fun _ => rfl) (fun v6_9 hf => ?_)
    refine g_il cx 1 dX2_waysOf_27 rfl ?_
    refine g_ic cx dX2_waysOf_29 k_ic1 ?_
    refine g_isub cx dX2_waysOf_30 ?_
    refine g_is cx (L2 := fun v8_10 => [(8, .int v8_10), (6, .long v6_9), (5, .int v5_7), (0, .ref (o 0)), (1, .ref (a1 0)), (2, .int x2), (3, .int x3), (4, .int x4)]) hf dX2_waysOf_31 (Nat.le_of_ble_eq_true rfl) (fun _ => rfl) (fun v8_10 hf => ?_)
    refine g_sub [3, 4, 5, 6, 7, 1, 0] rfl ?_
    exact h33 fu _ _ _ hf
  · refine g_lc cx dX2_waysOf_22 rfl ?_
    exact g_lret (ovf := fun (r : Int64 × S2) => (some (.long r.1))) (wf := fun (r : Int64 × S2) => (w_X2_waysOf a1 o a1_forms a1_paper a1_words a1_stock cB cI cJ cZ s_a1 r.2 s_a1_forms s_a1_paper s_a1_words)) cx hA hr hf rfl rfl dX2_waysOf_23
theorem dX2_isReached_0 : decode cX2_isReached 0 = .ok (.aload_n 0, 1) := by decide +kernel
theorem dX2_isReached_1 : decode cX2_isReached 1 = .ok (.getfield 15, 3) := by decide +kernel
theorem dX2_isReached_4 : decode cX2_isReached 4 = .ok (.iload_n 3, 1) := by decide +kernel
theorem dX2_isReached_5 : decode cX2_isReached 5 = .ok (.invokestatic 74, 3) := by decide +kernel
theorem dX2_isReached_8 : decode cX2_isReached 8 = .ok (.istore 5, 2) := by decide +kernel
theorem dX2_isReached_10 : decode cX2_isReached 10 = .ok (.iconst 0, 1) := by decide +kernel
theorem dX2_isReached_11 : decode cX2_isReached 11 = .ok (.istore 6, 2) := by decide +kernel
theorem dX2_isReached_13 : decode cX2_isReached 13 = .ok (.iload 6, 2) := by decide +kernel
theorem dX2_isReached_15 : decode cX2_isReached 15 = .ok (.aload_n 1, 1) := by decide +kernel
theorem dX2_isReached_16 : decode cX2_isReached 16 = .ok (.invokevirtual 57, 3) := by decide +kernel
theorem dX2_isReached_19 : decode cX2_isReached 19 = .ok (.if_icmp .ge 33, 3) := by decide +kernel
theorem dX2_isReached_22 : decode cX2_isReached 22 = .ok (.iload 5, 2) := by decide +kernel
theorem dX2_isReached_24 : decode cX2_isReached 24 = .ok (.iload 6, 2) := by decide +kernel
theorem dX2_isReached_26 : decode cX2_isReached 26 = .ok (.ishr, 1) := by decide +kernel
theorem dX2_isReached_27 : decode cX2_isReached 27 = .ok (.iconst 1, 1) := by decide +kernel
theorem dX2_isReached_28 : decode cX2_isReached 28 = .ok (.iand, 1) := by decide +kernel
theorem dX2_isReached_29 : decode cX2_isReached 29 = .ok (.ifCond .eq 17, 3) := by decide +kernel
theorem dX2_isReached_32 : decode cX2_isReached 32 = .ok (.aload_n 1, 1) := by decide +kernel
theorem dX2_isReached_33 : decode cX2_isReached 33 = .ok (.iload_n 2, 1) := by decide +kernel
theorem dX2_isReached_34 : decode cX2_isReached 34 = .ok (.iload 6, 2) := by decide +kernel
theorem dX2_isReached_36 : decode cX2_isReached 36 = .ok (.iload 4, 2) := by decide +kernel
theorem dX2_isReached_38 : decode cX2_isReached 38 = .ok (.invokevirtual 105, 3) := by decide +kernel
theorem dX2_isReached_41 : decode cX2_isReached 41 = .ok (.ifCond .eq 5, 3) := by decide +kernel
theorem dX2_isReached_44 : decode cX2_isReached 44 = .ok (.iconst 1, 1) := by decide +kernel
theorem dX2_isReached_45 : decode cX2_isReached 45 = .ok (.ireturn, 1) := by decide +kernel
theorem dX2_isReached_46 : decode cX2_isReached 46 = .ok (.iinc 6 1, 3) := by decide +kernel
theorem dX2_isReached_49 : decode cX2_isReached 49 = .ok (.goto (-36), 3) := by decide +kernel
theorem dX2_isReached_52 : decode cX2_isReached 52 = .ok (.iconst 0, 1) := by decide +kernel
theorem dX2_isReached_53 : decode cX2_isReached 53 = .ok (.ireturn, 1) := by decide +kernel
theorem q1_120 : Cond.fieldLink RX2 15 "RhymeLaw$Guess" "possible" "[I" ∈ TT := tq1 120 rfl rfl
theorem q4_156 : Cond.methodLink RX2 74 yX6_at ∈ TT := tq4 156 rfl rfl
theorem fg_RX2_15 {p : Program} {l : Launch} {e : Env} {R : Room} {s : State} {m : MethodId} {args : Array Value} {below : List Frame} {meth : Method} {c : Code} {D : gG} {tys : List (ClassId × FieldType)} {A : Nat → Prop} {nL : Nat} {Q : State → Prop} {cells slots : Nat} {cc : ByteArray} {ws : va_W} {L : List (Nat × Value)} {pc : Nat} {stk : List Value} (cx : gX p s m args meth c cc nL RX2 D tys A) {a : Nat} {fs : List Value} {v : Value} (q0 : Nat) (he : ws[q0]? = some (a, .inr (2, fs))) (hv : fs[1]? = some v) (hd : decode cc pc = .ok (.getfield 15, 3)) (kk : gW p l e R s m args below meth c D A nL Q cells slots ws L (pc + 3) (v :: stk)) : gW p l e R s m args below meth c D A nL Q cells slots ws L pc (.ref a :: stk) :=
  g_get cx (C := RX2) (T := TX2) (N := 2) inT2 rfl 1 (Nat.le_of_ble_eq_true rfl) q1_120 rfl q0 he hv hd kk
theorem lk_RX2_74 : slk RX2 74 yX6_at cX6_at 2 (some .int) 2 := ⟨List.forall_mem_cons.mpr ⟨q4_156, List.forall_mem_cons.mpr ⟨q2_207, List.forall_mem_cons.mpr ⟨q1_19, fun _ h => absurd h List.not_mem_nil⟩⟩⟩, q2_208, by decide, by decide, by decide +kernel⟩
def F_X2_isReached_b46 (s_a1 : S10) (s_o : S2) (x2 : Int32) (x3 : Int32) (x4 : Int32) (K13 : Int32 → Int32 → Option (Int32)) (v5 : Int32) (v6 : Int32) : Option (Int32) := nm (v6 + 1) fun v6_1 => K13 v5 v6_1
def F_X2_isReached_b13 (s_a1 : S10) (s_o : S2) (x2 : Int32) (x3 : Int32) (x4 : Int32) : Nat → Int32 → Int32 → Option (Int32)
  | 0, _, _ => none
  | n + 1, v5, v6 => (F_X10_size s_a1).bind fun q_2 => (if q_2 ≤ v6 then some (0) else (if ((v5 >>> (v6 &&& 31)) &&& 1) = 0 then F_X2_isReached_b46 s_a1 s_o x2 x3 x4 (F_X2_isReached_b13 s_a1 s_o x2 x3 x4 n) v5 v6 else (F_X10_rhyme s_a1 x2 v6 x4).bind fun q_3 => (if q_3 = 0 then F_X2_isReached_b46 s_a1 s_o x2 x3 x4 (F_X2_isReached_b13 s_a1 s_o x2 x3 x4 n) v5 v6 else some (1))))
def F_X2_isReached (s_a1 : S10) (s_o : S2) (x2 : Int32) (x3 : Int32) (x4 : Int32) : Option (Int32) := (F_X6_at 8 (s2_possible s_o) x3).bind fun q_4 => nm q_4 fun v5_5 => nm 0 fun v6_6 => F_X2_isReached_b13 s_a1 s_o x2 x3 x4 fu v5_5 v6_6
def w_X2_isReached (a1 o : Nat → Nat) (cB cI cJ cZ : ClassId) (s_a1 : S10) (s_o : S2) : va_W := List.flatten [(gX10 a1 cB cI cJ cZ s_a1), (gX2 o cB cI cJ cZ s_o)]
abbrev rm_X2_isReached : Room := { frames := 3, cells := 0, slots := 0, locals := 66 }
set_option maxHeartbeats 4000000 in
set_option maxRecDepth 100000 in
theorem c_X2_isReached (l : Launch) (D : gG) (cB cI cJ cZ : ClassId) (a1 o : Nat → Nat) (s_a1 : S10) (s_o : S2) (x2 : Int32) (x3 : Int32) (x4 : Int32) (r : Int32) (hf : F_X2_isReached s_a1 s_o x2 x3 x4 = some r) : gM l D (tyL cB cI cJ cZ) yX2_isReached cX2_isReached 7 (some .boolean) rm_X2_isReached [.ref (o 0), .ref (a1 0), .int x2, .int x3, .int x4] (w_X2_isReached a1 o cB cI cJ cZ s_a1 s_o) (some (.int r)) (w_X2_isReached a1 o cB cI cJ cZ s_a1 s_o) := by
  refine met_of (by decide) (Nat.le_of_ble_eq_true rfl) ?_
  intro p e s m args below meth c A cx hr hA
  show gW p l e rm_X2_isReached s m args below meth c D A 7 _ 0 0 _ [(0, .ref (o 0)), (1, .ref (a1 0)), (2, .int x2), (3, .int x3), (4, .int x4)] 0 []
  have h46 : ∀ (K13 : Int32 → Int32 → Option (Int32)), (∀ (v5 : Int32) (v6 : Int32), K13 v5 v6 = some r → gW p l e rm_X2_isReached s m args below meth c D A 7 (MQ below (QM D (tyL cB cI cJ cZ) (some (.int r)) (w_X2_isReached a1 o cB cI cJ cZ s_a1 s_o) (w_X2_isReached a1 o cB cI cJ cZ s_a1 s_o) s.heap.size) args s 0 0 A) 0 0 (w_X2_isReached a1 o cB cI cJ cZ s_a1 s_o) [(1, .ref (a1 0)), (2, .int x2), (4, .int x4), (5, .int v5), (6, .int v6)] 13 []) → ∀ (v5 : Int32) (v6 : Int32), F_X2_isReached_b46 s_a1 s_o x2 x3 x4 K13 v5 v6 = some r → gW p l e rm_X2_isReached s m args below meth c D A 7 (MQ below (QM D (tyL cB cI cJ cZ) (some (.int r)) (w_X2_isReached a1 o cB cI cJ cZ s_a1 s_o) (w_X2_isReached a1 o cB cI cJ cZ s_a1 s_o) s.heap.size) args s 0 0 A) 0 0 (w_X2_isReached a1 o cB cI cJ cZ s_a1 s_o) [(1, .ref (a1 0)), (2, .int x2), (4, .int x4), (5, .int v5), (6, .int v6)] 46 [] := by
    intro K13 kh13 v5 v6 hf
    rw [F_X2_isReached_b46] at hf
    refine g_inc cx (L2 := fun v6_1 => [(6, .int v6_1), (1, .ref (a1 0)), (2, .int x2), (4, .int x4), (5, .int v5)]) 4 hf dX2_isReached_46 rfl (k_inc1 _) (Nat.le_of_ble_eq_true rfl) (fun _ => rfl) (fun v6_1 hf => ?_)
    refine g_goto (tgt := 13) cx dX2_isReached_49 rfl ?_
    refine g_sub [1, 2, 3, 4, 0] rfl ?_
    exact kh13 _ _ hf
  have h13 : ∀ (n : Nat) (v5 : Int32) (v6 : Int32), F_X2_isReached_b13 s_a1 s_o x2 x3 x4 n v5 v6 = some r → gW p l e rm_X2_isReached s m args below meth c D A 7 (MQ below (QM D (tyL cB cI cJ cZ) (some (.int r)) (w_X2_isReached a1 o cB cI cJ cZ s_a1 s_o) (w_X2_isReached a1 o cB cI cJ cZ s_a1 s_o) s.heap.size) args s 0 0 A) 0 0 (w_X2_isReached a1 o cB cI cJ cZ s_a1 s_o) [(1, .ref (a1 0)), (2, .int x2), (4, .int x4), (5, .int v5), (6, .int v6)] 13 [] := by
    intro n
    induction n with
    | zero => intro v5 v6 hf; rw [F_X2_isReached_b13] at hf; cases hf
    | succ n ih =>
      intro v5 v6 hf
      rw [F_X2_isReached_b13] at hf
      refine g_il cx 4 dX2_isReached_13 rfl ?_
      refine g_aln cx 0 dX2_isReached_15 rfl ?_
      refine ob hf (fun q_2 hq_2 hf => ?_)
      refine g_callVGiR cx lk_RX2_57 (c_X10_size l D cB cI cJ cZ a1 s_a1 q_2 hq_2) rfl [0] rfl rfl (ci := 8) (q1 := 0) rfl rfl rfl (Nat.le_of_ble_eq_true rfl) ⟨rfl, rfl, Nat.le_of_ble_eq_true rfl, Nat.le_of_ble_eq_true rfl⟩ dX2_isReached_16 ?_
      refine g_ic_ge (tgt := 52) cx hf dX2_isReached_19 rfl (fun hf => ?_) (fun hf => ?_)
      · refine g_ic cx dX2_isReached_52 k_ic0 ?_
        exact g_zret (ovf := fun (r : Int32) => (some (.int r))) (wf := fun (r : Int32) => (w_X2_isReached a1 o cB cI cJ cZ s_a1 s_o)) cx hA hr rfl hf rfl rfl dX2_isReached_53
      · refine g_il cx 3 dX2_isReached_22 rfl ?_
        refine g_il cx 4 dX2_isReached_24 rfl ?_
        refine g_ishr cx dX2_isReached_26 ?_
        refine g_ic cx dX2_isReached_27 k_ic1 ?_
        refine g_iand cx dX2_isReached_28 ?_
        refine g_if_eq (tgt := 46) cx hf dX2_isReached_29 rfl (fun hf => ?_) (fun hf => ?_)
        · exact h46 _ ih _ _ hf
        · refine g_aln cx 0 dX2_isReached_32 rfl ?_
          refine g_iln cx 1 dX2_isReached_33 rfl ?_
          refine g_il cx 4 dX2_isReached_34 rfl ?_
          refine g_il cx 2 dX2_isReached_36 rfl ?_
          refine ob hf (fun q_3 hq_3 hf => ?_)
          refine g_callVGiR cx lk_RX2_105 (c_X10_rhyme l D cB cI cJ cZ a1 s_a1 x2 v6 x4 q_3 hq_3) rfl [0] rfl rfl (ci := 8) (q1 := 0) rfl rfl rfl (Nat.le_of_ble_eq_true rfl) ⟨rfl, rfl, Nat.le_of_ble_eq_true rfl, Nat.le_of_ble_eq_true rfl⟩ dX2_isReached_38 ?_
          refine g_if_eq (tgt := 46) cx hf dX2_isReached_41 rfl (fun hf => ?_) (fun hf => ?_)
          · exact h46 _ ih _ _ hf
          · refine g_ic cx dX2_isReached_44 k_ic1 ?_
            exact g_zret (ovf := fun (r : Int32) => (some (.int r))) (wf := fun (r : Int32) => (w_X2_isReached a1 o cB cI cJ cZ s_a1 s_o)) cx hA hr rfl hf rfl rfl dX2_isReached_45
  rw [F_X2_isReached] at hf
  refine g_aln cx 0 dX2_isReached_0 rfl ?_
  refine fg_RX2_15 cx 4 rfl rfl dX2_isReached_1 ?_
  refine g_iln cx 3 dX2_isReached_4 rfl ?_
  refine ob hf (fun q_4 hq_4 hf => ?_)
  refine g_callSiR cx lk_RX2_74 (c_X6_at l D cB cI cJ cZ (o 2) 8 (s2_possible s_o) x3 q_4 hq_4) rfl [6] rfl rfl rfl (Nat.le_of_ble_eq_true rfl) ⟨rfl, rfl, Nat.le_of_ble_eq_true rfl, Nat.le_of_ble_eq_true rfl⟩ dX2_isReached_5 ?_
  refine g_is cx (L2 := fun v5_5 => [(5, .int v5_5), (0, .ref (o 0)), (1, .ref (a1 0)), (2, .int x2), (3, .int x3), (4, .int x4)]) hf dX2_isReached_8 (Nat.le_of_ble_eq_true rfl) (fun _ => rfl) (fun v5_5 hf => ?_)
  refine g_ic cx dX2_isReached_10 k_ic0 ?_
  refine g_is cx (L2 := fun v6_6 => [(6, .int v6_6), (5, .int v5_5), (0, .ref (o 0)), (1, .ref (a1 0)), (2, .int x2), (3, .int x3), (4, .int x4)]) hf dX2_isReached_11 (Nat.le_of_ble_eq_true rfl) (fun _ => rfl) (fun v6_6 hf => ?_)
  refine g_sub [3, 4, 6, 1, 0] rfl ?_
  exact h13 fu _ _ hf
def tX2_wordsOf_7 : List Nat := 184 :: 0 :: 74 :: 184 :: 0 :: 78 :: 172 :: []
def tX2_wordsOf_6 : List Nat := 7 :: 184 :: 0 :: 68 :: 132 :: 5 :: 1 :: 167 :: 255 :: 156 :: 42 :: 180 :: 0 :: 15 :: 21 :: 4 :: tX2_wordsOf_7
def tX2_wordsOf_5 : List Nat := 128 :: 54 :: 7 :: 132 :: 8 :: 1 :: 167 :: 255 :: 198 :: 42 :: 180 :: 0 :: 15 :: 21 :: 5 :: 21 :: tX2_wordsOf_6
def tX2_wordsOf_4 : List Nat := 21 :: 6 :: 21 :: 8 :: 182 :: 0 :: 64 :: 153 :: 0 :: 12 :: 21 :: 7 :: 4 :: 21 :: 8 :: 120 :: tX2_wordsOf_5
def tX2_wordsOf_3 : List Nat := 9 :: 148 :: 158 :: 0 :: 33 :: 21 :: 6 :: 155 :: 0 :: 19 :: 42 :: 43 :: 180 :: 0 :: 49 :: 29 :: tX2_wordsOf_4
def tX2_wordsOf_2 : List Nat := 0 :: 49 :: 182 :: 0 :: 57 :: 162 :: 0 :: 52 :: 42 :: 21 :: 5 :: 21 :: 8 :: 182 :: 0 :: 60 :: tX2_wordsOf_3
def tX2_wordsOf_1 : List Nat := 5 :: 182 :: 0 :: 45 :: 54 :: 6 :: 3 :: 54 :: 7 :: 3 :: 54 :: 8 :: 21 :: 8 :: 43 :: 180 :: tX2_wordsOf_2
def tX2_wordsOf_0 : List Nat := 3 :: 54 :: 5 :: 21 :: 5 :: 21 :: 4 :: 163 :: 0 :: 99 :: 43 :: 180 :: 0 :: 31 :: 28 :: 21 :: tX2_wordsOf_1
theorem tX2_wordsOff_0 : (cX2_wordsOf.data.toList.map UInt8.toNat).drop 0 = tX2_wordsOf_0 := by decide +kernel
theorem tX2_wordsOff_1 : (cX2_wordsOf.data.toList.map UInt8.toNat).drop 16 = tX2_wordsOf_1 := fd_next (k := 0) tX2_wordsOff_0 rfl
theorem tX2_wordsOff_2 : (cX2_wordsOf.data.toList.map UInt8.toNat).drop 32 = tX2_wordsOf_2 := fd_next (k := 16) tX2_wordsOff_1 rfl
theorem tX2_wordsOff_3 : (cX2_wordsOf.data.toList.map UInt8.toNat).drop 48 = tX2_wordsOf_3 := fd_next (k := 32) tX2_wordsOff_2 rfl
theorem tX2_wordsOff_4 : (cX2_wordsOf.data.toList.map UInt8.toNat).drop 64 = tX2_wordsOf_4 := fd_next (k := 48) tX2_wordsOff_3 rfl
theorem tX2_wordsOff_5 : (cX2_wordsOf.data.toList.map UInt8.toNat).drop 80 = tX2_wordsOf_5 := fd_next (k := 64) tX2_wordsOff_4 rfl
theorem tX2_wordsOff_6 : (cX2_wordsOf.data.toList.map UInt8.toNat).drop 96 = tX2_wordsOf_6 := fd_next (k := 80) tX2_wordsOff_5 rfl
theorem tX2_wordsOff_7 : (cX2_wordsOf.data.toList.map UInt8.toNat).drop 112 = tX2_wordsOf_7 := fd_next (k := 96) tX2_wordsOff_6 rfl
theorem dX2_wordsOf_0 : decode cX2_wordsOf 0 = .ok (.iconst 0, 1) := dk_3 (fdB_of (k := 0) tX2_wordsOff_0 0 3 rfl)
theorem dX2_wordsOf_1 : decode cX2_wordsOf 1 = .ok (.istore 5, 2) := dk_54 (fdB_of (k := 0) tX2_wordsOff_0 1 54 rfl) (fdB_of (k := 0) tX2_wordsOff_0 2 5 rfl)
theorem dX2_wordsOf_3 : decode cX2_wordsOf 3 = .ok (.iload 5, 2) := dk_21 (fdB_of (k := 0) tX2_wordsOff_0 3 21 rfl) (fdB_of (k := 0) tX2_wordsOff_0 4 5 rfl)
theorem dX2_wordsOf_5 : decode cX2_wordsOf 5 = .ok (.iload 4, 2) := dk_21 (fdB_of (k := 0) tX2_wordsOff_0 5 21 rfl) (fdB_of (k := 0) tX2_wordsOff_0 6 4 rfl)
theorem dX2_wordsOf_7 : decode cX2_wordsOf 7 = .ok (.if_icmp .gt 99, 3) := dk_163 (fdB_of (k := 0) tX2_wordsOff_0 7 163 rfl) (fdB_of (k := 0) tX2_wordsOff_0 8 0 rfl) (fdB_of (k := 0) tX2_wordsOff_0 9 99 rfl) (by decide +kernel)
theorem dX2_wordsOf_10 : decode cX2_wordsOf 10 = .ok (.aload_n 1, 1) := dk_43 (fdB_of (k := 0) tX2_wordsOff_0 10 43 rfl)
theorem dX2_wordsOf_11 : decode cX2_wordsOf 11 = .ok (.getfield 31, 3) := dk_180 (fdB_of (k := 0) tX2_wordsOff_0 11 180 rfl) (fdB_of (k := 0) tX2_wordsOff_0 12 0 rfl) (fdB_of (k := 0) tX2_wordsOff_0 13 31 rfl)
theorem dX2_wordsOf_14 : decode cX2_wordsOf 14 = .ok (.iload_n 2, 1) := dk_28 (fdB_of (k := 0) tX2_wordsOff_0 14 28 rfl)
theorem dX2_wordsOf_15 : decode cX2_wordsOf 15 = .ok (.iload 5, 2) := dk_21 (fdB_of (k := 0) tX2_wordsOff_0 15 21 rfl) (fdB_of (k := 16) tX2_wordsOff_1 0 5 rfl)
theorem dX2_wordsOf_17 : decode cX2_wordsOf 17 = .ok (.invokevirtual 45, 3) := dk_182 (fdB_of (k := 16) tX2_wordsOff_1 1 182 rfl) (fdB_of (k := 16) tX2_wordsOff_1 2 0 rfl) (fdB_of (k := 16) tX2_wordsOff_1 3 45 rfl)
theorem dX2_wordsOf_20 : decode cX2_wordsOf 20 = .ok (.istore 6, 2) := dk_54 (fdB_of (k := 16) tX2_wordsOff_1 4 54 rfl) (fdB_of (k := 16) tX2_wordsOff_1 5 6 rfl)
theorem dX2_wordsOf_22 : decode cX2_wordsOf 22 = .ok (.iconst 0, 1) := dk_3 (fdB_of (k := 16) tX2_wordsOff_1 6 3 rfl)
theorem dX2_wordsOf_23 : decode cX2_wordsOf 23 = .ok (.istore 7, 2) := dk_54 (fdB_of (k := 16) tX2_wordsOff_1 7 54 rfl) (fdB_of (k := 16) tX2_wordsOff_1 8 7 rfl)
theorem dX2_wordsOf_25 : decode cX2_wordsOf 25 = .ok (.iconst 0, 1) := dk_3 (fdB_of (k := 16) tX2_wordsOff_1 9 3 rfl)
theorem dX2_wordsOf_26 : decode cX2_wordsOf 26 = .ok (.istore 8, 2) := dk_54 (fdB_of (k := 16) tX2_wordsOff_1 10 54 rfl) (fdB_of (k := 16) tX2_wordsOff_1 11 8 rfl)
theorem dX2_wordsOf_28 : decode cX2_wordsOf 28 = .ok (.iload 8, 2) := dk_21 (fdB_of (k := 16) tX2_wordsOff_1 12 21 rfl) (fdB_of (k := 16) tX2_wordsOff_1 13 8 rfl)
theorem dX2_wordsOf_30 : decode cX2_wordsOf 30 = .ok (.aload_n 1, 1) := dk_43 (fdB_of (k := 16) tX2_wordsOff_1 14 43 rfl)
theorem dX2_wordsOf_31 : decode cX2_wordsOf 31 = .ok (.getfield 49, 3) := dk_180 (fdB_of (k := 16) tX2_wordsOff_1 15 180 rfl) (fdB_of (k := 32) tX2_wordsOff_2 0 0 rfl) (fdB_of (k := 32) tX2_wordsOff_2 1 49 rfl)
theorem dX2_wordsOf_34 : decode cX2_wordsOf 34 = .ok (.invokevirtual 57, 3) := dk_182 (fdB_of (k := 32) tX2_wordsOff_2 2 182 rfl) (fdB_of (k := 32) tX2_wordsOff_2 3 0 rfl) (fdB_of (k := 32) tX2_wordsOff_2 4 57 rfl)
theorem dX2_wordsOf_37 : decode cX2_wordsOf 37 = .ok (.if_icmp .ge 52, 3) := dk_162 (fdB_of (k := 32) tX2_wordsOff_2 5 162 rfl) (fdB_of (k := 32) tX2_wordsOff_2 6 0 rfl) (fdB_of (k := 32) tX2_wordsOff_2 7 52 rfl) (by decide +kernel)
theorem dX2_wordsOf_40 : decode cX2_wordsOf 40 = .ok (.aload_n 0, 1) := dk_42 (fdB_of (k := 32) tX2_wordsOff_2 8 42 rfl)
theorem dX2_wordsOf_41 : decode cX2_wordsOf 41 = .ok (.iload 5, 2) := dk_21 (fdB_of (k := 32) tX2_wordsOff_2 9 21 rfl) (fdB_of (k := 32) tX2_wordsOff_2 10 5 rfl)
theorem dX2_wordsOf_43 : decode cX2_wordsOf 43 = .ok (.iload 8, 2) := dk_21 (fdB_of (k := 32) tX2_wordsOff_2 11 21 rfl) (fdB_of (k := 32) tX2_wordsOff_2 12 8 rfl)
theorem dX2_wordsOf_45 : decode cX2_wordsOf 45 = .ok (.invokevirtual 60, 3) := dk_182 (fdB_of (k := 32) tX2_wordsOff_2 13 182 rfl) (fdB_of (k := 32) tX2_wordsOff_2 14 0 rfl) (fdB_of (k := 32) tX2_wordsOff_2 15 60 rfl)
theorem dX2_wordsOf_48 : decode cX2_wordsOf 48 = .ok (.lconst 0, 1) := dk_9 (fdB_of (k := 48) tX2_wordsOff_3 0 9 rfl)
theorem dX2_wordsOf_49 : decode cX2_wordsOf 49 = .ok (.lcmp, 1) := dk_148 (fdB_of (k := 48) tX2_wordsOff_3 1 148 rfl)
theorem dX2_wordsOf_50 : decode cX2_wordsOf 50 = .ok (.ifCond .le 33, 3) := dk_158 (fdB_of (k := 48) tX2_wordsOff_3 2 158 rfl) (fdB_of (k := 48) tX2_wordsOff_3 3 0 rfl) (fdB_of (k := 48) tX2_wordsOff_3 4 33 rfl) (by decide +kernel)
theorem dX2_wordsOf_53 : decode cX2_wordsOf 53 = .ok (.iload 6, 2) := dk_21 (fdB_of (k := 48) tX2_wordsOff_3 5 21 rfl) (fdB_of (k := 48) tX2_wordsOff_3 6 6 rfl)
theorem dX2_wordsOf_55 : decode cX2_wordsOf 55 = .ok (.ifCond .lt 19, 3) := dk_155 (fdB_of (k := 48) tX2_wordsOff_3 7 155 rfl) (fdB_of (k := 48) tX2_wordsOff_3 8 0 rfl) (fdB_of (k := 48) tX2_wordsOff_3 9 19 rfl) (by decide +kernel)
theorem dX2_wordsOf_58 : decode cX2_wordsOf 58 = .ok (.aload_n 0, 1) := dk_42 (fdB_of (k := 48) tX2_wordsOff_3 10 42 rfl)
theorem dX2_wordsOf_59 : decode cX2_wordsOf 59 = .ok (.aload_n 1, 1) := dk_43 (fdB_of (k := 48) tX2_wordsOff_3 11 43 rfl)
theorem dX2_wordsOf_60 : decode cX2_wordsOf 60 = .ok (.getfield 49, 3) := dk_180 (fdB_of (k := 48) tX2_wordsOff_3 12 180 rfl) (fdB_of (k := 48) tX2_wordsOff_3 13 0 rfl) (fdB_of (k := 48) tX2_wordsOff_3 14 49 rfl)
theorem dX2_wordsOf_63 : decode cX2_wordsOf 63 = .ok (.iload_n 3, 1) := dk_29 (fdB_of (k := 48) tX2_wordsOff_3 15 29 rfl)
theorem dX2_wordsOf_64 : decode cX2_wordsOf 64 = .ok (.iload 6, 2) := dk_21 (fdB_of (k := 64) tX2_wordsOff_4 0 21 rfl) (fdB_of (k := 64) tX2_wordsOff_4 1 6 rfl)
theorem dX2_wordsOf_66 : decode cX2_wordsOf 66 = .ok (.iload 8, 2) := dk_21 (fdB_of (k := 64) tX2_wordsOff_4 2 21 rfl) (fdB_of (k := 64) tX2_wordsOff_4 3 8 rfl)
theorem dX2_wordsOf_68 : decode cX2_wordsOf 68 = .ok (.invokevirtual 64, 3) := dk_182 (fdB_of (k := 64) tX2_wordsOff_4 4 182 rfl) (fdB_of (k := 64) tX2_wordsOff_4 5 0 rfl) (fdB_of (k := 64) tX2_wordsOff_4 6 64 rfl)
theorem dX2_wordsOf_71 : decode cX2_wordsOf 71 = .ok (.ifCond .eq 12, 3) := dk_153 (fdB_of (k := 64) tX2_wordsOff_4 7 153 rfl) (fdB_of (k := 64) tX2_wordsOff_4 8 0 rfl) (fdB_of (k := 64) tX2_wordsOff_4 9 12 rfl) (by decide +kernel)
theorem dX2_wordsOf_74 : decode cX2_wordsOf 74 = .ok (.iload 7, 2) := dk_21 (fdB_of (k := 64) tX2_wordsOff_4 10 21 rfl) (fdB_of (k := 64) tX2_wordsOff_4 11 7 rfl)
theorem dX2_wordsOf_76 : decode cX2_wordsOf 76 = .ok (.iconst 1, 1) := dk_4 (fdB_of (k := 64) tX2_wordsOff_4 12 4 rfl)
theorem dX2_wordsOf_77 : decode cX2_wordsOf 77 = .ok (.iload 8, 2) := dk_21 (fdB_of (k := 64) tX2_wordsOff_4 13 21 rfl) (fdB_of (k := 64) tX2_wordsOff_4 14 8 rfl)
theorem dX2_wordsOf_79 : decode cX2_wordsOf 79 = .ok (.ishl, 1) := dk_120 (fdB_of (k := 64) tX2_wordsOff_4 15 120 rfl)
theorem dX2_wordsOf_80 : decode cX2_wordsOf 80 = .ok (.ior, 1) := dk_128 (fdB_of (k := 80) tX2_wordsOff_5 0 128 rfl)
theorem dX2_wordsOf_81 : decode cX2_wordsOf 81 = .ok (.istore 7, 2) := dk_54 (fdB_of (k := 80) tX2_wordsOff_5 1 54 rfl) (fdB_of (k := 80) tX2_wordsOff_5 2 7 rfl)
theorem dX2_wordsOf_83 : decode cX2_wordsOf 83 = .ok (.iinc 8 1, 3) := dk_132 (fdB_of (k := 80) tX2_wordsOff_5 3 132 rfl) (fdB_of (k := 80) tX2_wordsOff_5 4 8 rfl) (fdB_of (k := 80) tX2_wordsOff_5 5 1 rfl) (by decide +kernel)
theorem dX2_wordsOf_86 : decode cX2_wordsOf 86 = .ok (.goto (-58), 3) := dk_167 (fdB_of (k := 80) tX2_wordsOff_5 6 167 rfl) (fdB_of (k := 80) tX2_wordsOff_5 7 255 rfl) (fdB_of (k := 80) tX2_wordsOff_5 8 198 rfl) (by decide +kernel)
theorem dX2_wordsOf_89 : decode cX2_wordsOf 89 = .ok (.aload_n 0, 1) := dk_42 (fdB_of (k := 80) tX2_wordsOff_5 9 42 rfl)
theorem dX2_wordsOf_90 : decode cX2_wordsOf 90 = .ok (.getfield 15, 3) := dk_180 (fdB_of (k := 80) tX2_wordsOff_5 10 180 rfl) (fdB_of (k := 80) tX2_wordsOff_5 11 0 rfl) (fdB_of (k := 80) tX2_wordsOff_5 12 15 rfl)
theorem dX2_wordsOf_93 : decode cX2_wordsOf 93 = .ok (.iload 5, 2) := dk_21 (fdB_of (k := 80) tX2_wordsOff_5 13 21 rfl) (fdB_of (k := 80) tX2_wordsOff_5 14 5 rfl)
theorem dX2_wordsOf_95 : decode cX2_wordsOf 95 = .ok (.iload 7, 2) := dk_21 (fdB_of (k := 80) tX2_wordsOff_5 15 21 rfl) (fdB_of (k := 96) tX2_wordsOff_6 0 7 rfl)
theorem dX2_wordsOf_97 : decode cX2_wordsOf 97 = .ok (.invokestatic 68, 3) := dk_184 (fdB_of (k := 96) tX2_wordsOff_6 1 184 rfl) (fdB_of (k := 96) tX2_wordsOff_6 2 0 rfl) (fdB_of (k := 96) tX2_wordsOff_6 3 68 rfl)
theorem dX2_wordsOf_100 : decode cX2_wordsOf 100 = .ok (.iinc 5 1, 3) := dk_132 (fdB_of (k := 96) tX2_wordsOff_6 4 132 rfl) (fdB_of (k := 96) tX2_wordsOff_6 5 5 rfl) (fdB_of (k := 96) tX2_wordsOff_6 6 1 rfl) (by decide +kernel)
theorem dX2_wordsOf_103 : decode cX2_wordsOf 103 = .ok (.goto (-100), 3) := dk_167 (fdB_of (k := 96) tX2_wordsOff_6 7 167 rfl) (fdB_of (k := 96) tX2_wordsOff_6 8 255 rfl) (fdB_of (k := 96) tX2_wordsOff_6 9 156 rfl) (by decide +kernel)
theorem dX2_wordsOf_106 : decode cX2_wordsOf 106 = .ok (.aload_n 0, 1) := dk_42 (fdB_of (k := 96) tX2_wordsOff_6 10 42 rfl)
theorem dX2_wordsOf_107 : decode cX2_wordsOf 107 = .ok (.getfield 15, 3) := dk_180 (fdB_of (k := 96) tX2_wordsOff_6 11 180 rfl) (fdB_of (k := 96) tX2_wordsOff_6 12 0 rfl) (fdB_of (k := 96) tX2_wordsOff_6 13 15 rfl)
theorem dX2_wordsOf_110 : decode cX2_wordsOf 110 = .ok (.iload 4, 2) := dk_21 (fdB_of (k := 96) tX2_wordsOff_6 14 21 rfl) (fdB_of (k := 96) tX2_wordsOff_6 15 4 rfl)
theorem dX2_wordsOf_112 : decode cX2_wordsOf 112 = .ok (.invokestatic 74, 3) := dk_184 (fdB_of (k := 112) tX2_wordsOff_7 0 184 rfl) (fdB_of (k := 112) tX2_wordsOff_7 1 0 rfl) (fdB_of (k := 112) tX2_wordsOff_7 2 74 rfl)
theorem dX2_wordsOf_115 : decode cX2_wordsOf 115 = .ok (.invokestatic 78, 3) := dk_184 (fdB_of (k := 112) tX2_wordsOff_7 3 184 rfl) (fdB_of (k := 112) tX2_wordsOff_7 4 0 rfl) (fdB_of (k := 112) tX2_wordsOff_7 5 78 rfl)
theorem dX2_wordsOf_118 : decode cX2_wordsOf 118 = .ok (.ireturn, 1) := dk_172 (fdB_of (k := 112) tX2_wordsOff_7 6 172 rfl)

theorem q0_19 : Cond.selects RX2 yX2_isReached yX2_isReached ∈ TT := tq0 19 rfl rfl
theorem q4_152 : Cond.methodLink RX2 64 yX2_isReached ∈ TT := tq4 152 rfl rfl
theorem q4_154 : Cond.instanceMethod yX2_isReached ∈ TT := tq4 154 rfl rfl
theorem q4_155 : Cond.code yX2_isReached cX2_isReached 7 (some .boolean) ∈ TT := tq4 155 rfl rfl
theorem q4_157 : Cond.methodLink RX2 68 yX6_set ∈ TT := tq4 157 rfl rfl
theorem q4_158 : Cond.methodLink RX2 78 yJ6_bitCount_0f7a4 ∈ TT := tq4 158 rfl rfl
theorem lk_RX2_68 : slk RX2 68 yX6_set cX6_set 3 none 3 := ⟨List.forall_mem_cons.mpr ⟨q4_157, List.forall_mem_cons.mpr ⟨q2_178, List.forall_mem_cons.mpr ⟨q1_19, fun _ h => absurd h List.not_mem_nil⟩⟩⟩, q2_179, by decide, by decide, by decide +kernel⟩
theorem lk_RX2_64 : vlk RX2 64 yX2_isReached cX2_isReached 7 (some .boolean) 4 := ⟨List.forall_mem_cons.mpr ⟨q4_152, List.forall_mem_cons.mpr ⟨q4_154, List.forall_mem_cons.mpr ⟨q0_19, List.forall_mem_cons.mpr ⟨q1_7, fun _ h => absurd h List.not_mem_nil⟩⟩⟩⟩, q4_155, by decide, by decide, by decide +kernel⟩
theorem lk_RX2_78 : slk RX2 78 yJ6_bitCount_0f7a4 cJ6_bitCount_0f7a4 1 (some .int) 1 := ⟨List.forall_mem_cons.mpr ⟨q4_158, List.forall_mem_cons.mpr ⟨q3_211, List.forall_mem_cons.mpr ⟨q1_20, fun _ h => absurd h List.not_mem_nil⟩⟩⟩, q3_212, by decide, by decide, by decide +kernel⟩
def F_X2_wordsOf_b83 (s_a1 : S7) (s_a1_forms : S1) (s_a1_words : S10) (x2 : Int32) (x3 : Int32) (x4 : Int32) (K3 : Int32 → S2 → Option (Int32 × S2)) (K28 : Int32 → Int32 → Int32 → Int32 → S2 → Option (Int32 × S2)) (v5 : Int32) (v6 : Int32) (v7 : Int32) (v8 : Int32) (zs_o : S2) : Option (Int32 × S2) := nm (v8 + 1) fun v8_1 => K28 v5 v6 v7 v8_1 zs_o
def F_X2_wordsOf_b74 (s_a1 : S7) (s_a1_forms : S1) (s_a1_words : S10) (x2 : Int32) (x3 : Int32) (x4 : Int32) (K3 : Int32 → S2 → Option (Int32 × S2)) (K28 : Int32 → Int32 → Int32 → Int32 → S2 → Option (Int32 × S2)) (v5 : Int32) (v6 : Int32) (v7 : Int32) (v8 : Int32) (zs_o : S2) : Option (Int32 × S2) := nm (v7 ||| (1 <<< (v8 &&& 31))) fun v7_2 => F_X2_wordsOf_b83 s_a1 s_a1_forms s_a1_words x2 x3 x4 K3 K28 v5 v6 v7_2 v8 zs_o
def F_X2_wordsOf_b28 (s_a1 : S7) (s_a1_forms : S1) (s_a1_words : S10) (x2 : Int32) (x3 : Int32) (x4 : Int32) (K3 : Int32 → S2 → Option (Int32 × S2)) : Nat → Int32 → Int32 → Int32 → Int32 → S2 → Option (Int32 × S2)
  | 0, _, _, _, _, _ => none
  | n + 1, v5, v6, v7, v8, zs_o => (F_X10_size s_a1_words).bind fun q_3 => (if q_3 ≤ v8 then (F_X6_set 8 (s2_possible zs_o) v5 v7).bind fun q_4 => nm (v5 + 1) fun v5_5 => K3 v5_5 (u2_possible zs_o q_4) else (F_X2_waysAt zs_o v5 v8).bind fun q_6 => (if (lg_cmp q_6 0) ≤ 0 then F_X2_wordsOf_b83 s_a1 s_a1_forms s_a1_words x2 x3 x4 K3 (F_X2_wordsOf_b28 s_a1 s_a1_forms s_a1_words x2 x3 x4 K3 n) v5 v6 v7 v8 zs_o else (if v6 < 0 then F_X2_wordsOf_b74 s_a1 s_a1_forms s_a1_words x2 x3 x4 K3 (F_X2_wordsOf_b28 s_a1 s_a1_forms s_a1_words x2 x3 x4 K3 n) v5 v6 v7 v8 zs_o else (F_X2_isReached s_a1_words zs_o x3 v6 v8).bind fun q_7 => (if q_7 = 0 then F_X2_wordsOf_b83 s_a1 s_a1_forms s_a1_words x2 x3 x4 K3 (F_X2_wordsOf_b28 s_a1 s_a1_forms s_a1_words x2 x3 x4 K3 n) v5 v6 v7 v8 zs_o else F_X2_wordsOf_b74 s_a1 s_a1_forms s_a1_words x2 x3 x4 K3 (F_X2_wordsOf_b28 s_a1 s_a1_forms s_a1_words x2 x3 x4 K3 n) v5 v6 v7 v8 zs_o))))
def F_X2_wordsOf_b3 (s_a1 : S7) (s_a1_forms : S1) (s_a1_words : S10) (x2 : Int32) (x3 : Int32) (x4 : Int32) : Nat → Int32 → S2 → Option (Int32 × S2)
  | 0, _, _ => none
  | n + 1, v5, zs_o => (if x4 < v5 then (F_X6_at 8 (s2_possible zs_o) x4).bind fun q_8 => (F_J6_bitCount_0f7a4 q_8).bind fun q_9 => some (q_9, zs_o) else (F_X1_ahead s_a1_forms x2 v5).bind fun q_10 => nm q_10 fun v6_11 => nm 0 fun v7_12 => nm 0 fun v8_13 => F_X2_wordsOf_b28 s_a1 s_a1_forms s_a1_words x2 x3 x4 (F_X2_wordsOf_b3 s_a1 s_a1_forms s_a1_words x2 x3 x4 n) fu v5 v6_11 v7_12 v8_13 zs_o)
def F_X2_wordsOf (s_a1 : S7) (s_o : S2) (s_a1_forms : S1) (s_a1_words : S10) (x2 : Int32) (x3 : Int32) (x4 : Int32) : Option (Int32 × S2) := nm 0 fun v5_14 => F_X2_wordsOf_b3 s_a1 s_a1_forms s_a1_words x2 x3 x4 fu v5_14 s_o
def w_X2_wordsOf (a1 o a1_forms a1_words a1_paper a1_stock : Nat → Nat) (cB cI cJ cZ : ClassId) (s_a1 : S7) (s_o : S2) (s_a1_forms : S1) (s_a1_words : S10) : va_W := List.flatten [(gX7 a1 cB cI cJ cZ (a1_words 0) (a1_forms 0) (a1_paper 0) (a1_stock 0) s_a1), (gX2 o cB cI cJ cZ s_o), (gX1 a1_forms cB cI cJ cZ s_a1_forms), (gX10 a1_words cB cI cJ cZ s_a1_words)]
abbrev rm_X2_wordsOf : Room := { frames := 4, cells := 0, slots := 0, locals := 92 }
set_option maxHeartbeats 4000000 in
set_option maxRecDepth 100000 in
theorem c_X2_wordsOf (l : Launch) (D : gG) (cB cI cJ cZ : ClassId) (a1 o a1_forms a1_words a1_paper a1_stock : Nat → Nat) (s_a1 : S7) (s_o : S2) (s_a1_forms : S1) (s_a1_words : S10) (x2 : Int32) (x3 : Int32) (x4 : Int32) (r : Int32 × S2) (hf : F_X2_wordsOf s_a1 s_o s_a1_forms s_a1_words x2 x3 x4 = some r) : gM l D (tyL cB cI cJ cZ) yX2_wordsOf cX2_wordsOf 9 (some .int) rm_X2_wordsOf [.ref (o 0), .ref (a1 0), .int x2, .int x3, .int x4] (w_X2_wordsOf a1 o a1_forms a1_words a1_paper a1_stock cB cI cJ cZ s_a1 s_o s_a1_forms s_a1_words) (some (.int r.1)) (w_X2_wordsOf a1 o a1_forms a1_words a1_paper a1_stock cB cI cJ cZ s_a1 r.2 s_a1_forms s_a1_words) := by
  refine met_of (by decide) (Nat.le_of_ble_eq_true rfl) ?_
  intro p e s m args below meth c A cx hr hA
  show gW p l e rm_X2_wordsOf s m args below meth c D A 9 _ 0 0 _ [(0, .ref (o 0)), (1, .ref (a1 0)), (2, .int x2), (3, .int x3), (4, .int x4)] 0 []
  have h83 : ∀ (K3 : Int32 → S2 → Option (Int32 × S2)), (∀ (v5 : Int32) (zs_o : S2), K3 v5 zs_o = some r → gW p l e rm_X2_wordsOf s m args below meth c D A 9 (MQ below (QM D (tyL cB cI cJ cZ) (some (.int r.1)) (w_X2_wordsOf a1 o a1_forms a1_words a1_paper a1_stock cB cI cJ cZ s_a1 s_o s_a1_forms s_a1_words) (w_X2_wordsOf a1 o a1_forms a1_words a1_paper a1_stock cB cI cJ cZ s_a1 r.2 s_a1_forms s_a1_words) s.heap.size) args s 0 0 A) 0 0 (w_X2_wordsOf a1 o a1_forms a1_words a1_paper a1_stock cB cI cJ cZ s_a1 zs_o s_a1_forms s_a1_words) [(0, .ref (o 0)), (1, .ref (a1 0)), (2, .int x2), (3, .int x3), (4, .int x4), (5, .int v5)] 3 []) → ∀ (K28 : Int32 → Int32 → Int32 → Int32 → S2 → Option (Int32 × S2)), (∀ (v5 : Int32) (v6 : Int32) (v7 : Int32) (v8 : Int32) (zs_o : S2), K28 v5 v6 v7 v8 zs_o = some r → gW p l e rm_X2_wordsOf s m args below meth c D A 9 (MQ below (QM D (tyL cB cI cJ cZ) (some (.int r.1)) (w_X2_wordsOf a1 o a1_forms a1_words a1_paper a1_stock cB cI cJ cZ s_a1 s_o s_a1_forms s_a1_words) (w_X2_wordsOf a1 o a1_forms a1_words a1_paper a1_stock cB cI cJ cZ s_a1 r.2 s_a1_forms s_a1_words) s.heap.size) args s 0 0 A) 0 0 (w_X2_wordsOf a1 o a1_forms a1_words a1_paper a1_stock cB cI cJ cZ s_a1 zs_o s_a1_forms s_a1_words) [(0, .ref (o 0)), (1, .ref (a1 0)), (2, .int x2), (3, .int x3), (4, .int x4), (5, .int v5), (6, .int v6), (7, .int v7), (8, .int v8)] 28 []) → ∀ (v5 : Int32) (v6 : Int32) (v7 : Int32) (v8 : Int32) (zs_o : S2), F_X2_wordsOf_b83 s_a1 s_a1_forms s_a1_words x2 x3 x4 K3 K28 v5 v6 v7 v8 zs_o = some r → gW p l e rm_X2_wordsOf s m args below meth c D A 9 (MQ below (QM D (tyL cB cI cJ cZ) (some (.int r.1)) (w_X2_wordsOf a1 o a1_forms a1_words a1_paper a1_stock cB cI cJ cZ s_a1 s_o s_a1_forms s_a1_words) (w_X2_wordsOf a1 o a1_forms a1_words a1_paper a1_stock cB cI cJ cZ s_a1 r.2 s_a1_forms s_a1_words) s.heap.size) args s 0 0 A) 0 0 (w_X2_wordsOf a1 o a1_forms a1_words a1_paper a1_stock cB cI cJ cZ s_a1 zs_o s_a1_forms s_a1_words) [(0, .ref (o 0)), (1, .ref (a1 0)), (2, .int x2), (3, .int x3), (4, .int x4), (5, .int v5), (6, .int v6), (7, .int v7), (8, .int v8)] 83 [] := by
    intro K3 kh3 K28 kh28 v5 v6 v7 v8 zs_o hf
    rw [F_X2_wordsOf_b83] at hf
    refine g_inc cx (L2 := fun v8_1 => [(8, .int v8_1), (0, .ref (o 0)), (1, .ref (a1 0)), (2, .int x2), (3, .int x3), (4, .int x4), (5, .int v5), (6, .int v6), (7, .int v7)]) 8 hf dX2_wordsOf_83 rfl (k_inc1 _) (Nat.le_of_ble_eq_true rfl) (fun _ => rfl) (fun v8_1 hf => ?_)
    refine g_goto (tgt := 28) cx dX2_wordsOf_86 rfl ?_
    refine g_sub [1, 2, 3, 4, 5, 6, 7, 8, 0] rfl ?_
    exact kh28 _ _ _ _ _ hf
  have h74 : ∀ (K3 : Int32 → S2 → Option (Int32 × S2)), (∀ (v5 : Int32) (zs_o : S2), K3 v5 zs_o = some r → gW p l e rm_X2_wordsOf s m args below meth c D A 9 (MQ below (QM D (tyL cB cI cJ cZ) (some (.int r.1)) (w_X2_wordsOf a1 o a1_forms a1_words a1_paper a1_stock cB cI cJ cZ s_a1 s_o s_a1_forms s_a1_words) (w_X2_wordsOf a1 o a1_forms a1_words a1_paper a1_stock cB cI cJ cZ s_a1 r.2 s_a1_forms s_a1_words) s.heap.size) args s 0 0 A) 0 0 (w_X2_wordsOf a1 o a1_forms a1_words a1_paper a1_stock cB cI cJ cZ s_a1 zs_o s_a1_forms s_a1_words) [(0, .ref (o 0)), (1, .ref (a1 0)), (2, .int x2), (3, .int x3), (4, .int x4), (5, .int v5)] 3 []) → ∀ (K28 : Int32 → Int32 → Int32 → Int32 → S2 → Option (Int32 × S2)), (∀ (v5 : Int32) (v6 : Int32) (v7 : Int32) (v8 : Int32) (zs_o : S2), K28 v5 v6 v7 v8 zs_o = some r → gW p l e rm_X2_wordsOf s m args below meth c D A 9 (MQ below (QM D (tyL cB cI cJ cZ) (some (.int r.1)) (w_X2_wordsOf a1 o a1_forms a1_words a1_paper a1_stock cB cI cJ cZ s_a1 s_o s_a1_forms s_a1_words) (w_X2_wordsOf a1 o a1_forms a1_words a1_paper a1_stock cB cI cJ cZ s_a1 r.2 s_a1_forms s_a1_words) s.heap.size) args s 0 0 A) 0 0 (w_X2_wordsOf a1 o a1_forms a1_words a1_paper a1_stock cB cI cJ cZ s_a1 zs_o s_a1_forms s_a1_words) [(0, .ref (o 0)), (1, .ref (a1 0)), (2, .int x2), (3, .int x3), (4, .int x4), (5, .int v5), (6, .int v6), (7, .int v7), (8, .int v8)] 28 []) → ∀ (v5 : Int32) (v6 : Int32) (v7 : Int32) (v8 : Int32) (zs_o : S2), F_X2_wordsOf_b74 s_a1 s_a1_forms s_a1_words x2 x3 x4 K3 K28 v5 v6 v7 v8 zs_o = some r → gW p l e rm_X2_wordsOf s m args below meth c D A 9 (MQ below (QM D (tyL cB cI cJ cZ) (some (.int r.1)) (w_X2_wordsOf a1 o a1_forms a1_words a1_paper a1_stock cB cI cJ cZ s_a1 s_o s_a1_forms s_a1_words) (w_X2_wordsOf a1 o a1_forms a1_words a1_paper a1_stock cB cI cJ cZ s_a1 r.2 s_a1_forms s_a1_words) s.heap.size) args s 0 0 A) 0 0 (w_X2_wordsOf a1 o a1_forms a1_words a1_paper a1_stock cB cI cJ cZ s_a1 zs_o s_a1_forms s_a1_words) [(0, .ref (o 0)), (1, .ref (a1 0)), (2, .int x2), (3, .int x3), (4, .int x4), (5, .int v5), (6, .int v6), (7, .int v7), (8, .int v8)] 74 [] := by
    intro K3 kh3 K28 kh28 v5 v6 v7 v8 zs_o hf
    rw [F_X2_wordsOf_b74] at hf
    refine g_il cx 7 dX2_wordsOf_74 rfl ?_
    refine g_ic cx dX2_wordsOf_76 k_ic1 ?_
    refine g_il cx 8 dX2_wordsOf_77 rfl ?_
    refine g_ishl cx dX2_wordsOf_79 ?_
    refine g_ior cx dX2_wordsOf_80 ?_
    refine g_is cx (L2 := fun v7_2 => [(7, .int v7_2), (0, .ref (o 0)), (1, .ref (a1 0)), (2, .int x2), (3, .int x3), (4, .int x4), (5, .int v5), (6, .int v6), (8, .int v8)]) hf dX2_wordsOf_81 (Nat.le_of_ble_eq_true rfl) (fun _ => rfl) (fun v7_2 hf => ?_)
    refine g_sub [1, 2, 3, 4, 5, 6, 7, 0, 8] rfl ?_
    exact h83 _ kh3 _ kh28 _ _ _ _ _ hf
  have h28 : ∀ (K3 : Int32 → S2 → Option (Int32 × S2)), (∀ (v5 : Int32) (zs_o : S2), K3 v5 zs_o = some r → gW p l e rm_X2_wordsOf s m args below meth c D A 9 (MQ below (QM D (tyL cB cI cJ cZ) (some (.int r.1)) (w_X2_wordsOf a1 o a1_forms a1_words a1_paper a1_stock cB cI cJ cZ s_a1 s_o s_a1_forms s_a1_words) (w_X2_wordsOf a1 o a1_forms a1_words a1_paper a1_stock cB cI cJ cZ s_a1 r.2 s_a1_forms s_a1_words) s.heap.size) args s 0 0 A) 0 0 (w_X2_wordsOf a1 o a1_forms a1_words a1_paper a1_stock cB cI cJ cZ s_a1 zs_o s_a1_forms s_a1_words) [(0, .ref (o 0)), (1, .ref (a1 0)), (2, .int x2), (3, .int x3), (4, .int x4), (5, .int v5)] 3 []) → ∀ (n : Nat) (v5 : Int32) (v6 : Int32) (v7 : Int32) (v8 : Int32) (zs_o : S2), F_X2_wordsOf_b28 s_a1 s_a1_forms s_a1_words x2 x3 x4 K3 n v5 v6 v7 v8 zs_o = some r → gW p l e rm_X2_wordsOf s m args below meth c D A 9 (MQ below (QM D (tyL cB cI cJ cZ) (some (.int r.1)) (w_X2_wordsOf a1 o a1_forms a1_words a1_paper a1_stock cB cI cJ cZ s_a1 s_o s_a1_forms s_a1_words) (w_X2_wordsOf a1 o a1_forms a1_words a1_paper a1_stock cB cI cJ cZ s_a1 r.2 s_a1_forms s_a1_words) s.heap.size) args s 0 0 A) 0 0 (w_X2_wordsOf a1 o a1_forms a1_words a1_paper a1_stock cB cI cJ cZ s_a1 zs_o s_a1_forms s_a1_words) [(0, .ref (o 0)), (1, .ref (a1 0)), (2, .int x2), (3, .int x3), (4, .int x4), (5, .int v5), (6, .int v6), (7, .int v7), (8, .int v8)] 28 [] := by
    intro K3 kh3 n
    induction n with
    | zero => intro v5 v6 v7 v8 zs_o hf; rw [F_X2_wordsOf_b28] at hf; cases hf
    | succ n ih =>
      intro v5 v6 v7 v8 zs_o hf
      rw [F_X2_wordsOf_b28] at hf
      refine g_il cx 8 dX2_wordsOf_28 rfl ?_
      refine g_aln cx 1 dX2_wordsOf_30 rfl ?_
      refine fg_RX2_49 cx 0 rfl rfl dX2_wordsOf_31 ?_
      refine ob hf (fun q_3 hq_3 hf => ?_)
      refine g_callVGiR cx lk_RX2_57 (c_X10_size l D cB cI cJ cZ a1_words s_a1_words q_3 hq_3) rfl [3] rfl rfl (ci := 8) (q1 := 0) rfl rfl rfl (Nat.le_of_ble_eq_true rfl) ⟨rfl, rfl, Nat.le_of_ble_eq_true rfl, Nat.le_of_ble_eq_true rfl⟩ dX2_wordsOf_34 ?_
      refine g_ic_ge (tgt := 89) cx hf dX2_wordsOf_37 rfl (fun hf => ?_) (fun hf => ?_)
      · refine g_aln cx 0 dX2_wordsOf_89 rfl ?_
        refine fg_RX2_15 cx 2 rfl rfl dX2_wordsOf_90 ?_
        refine g_il cx 5 dX2_wordsOf_93 rfl ?_
        refine g_il cx 7 dX2_wordsOf_95 rfl ?_
        refine ob hf (fun q_4 hq_4 hf => ?_)
        refine g_callSv cx lk_RX2_68 (c_X6_set l D cB cI cJ cZ (o 2) 8 (s2_possible zs_o) v5 v7 q_4 hq_4) rfl [4] rfl rfl (ws' := (w_X2_wordsOf a1 o a1_forms a1_words a1_paper a1_stock cB cI cJ cZ s_a1 (u2_possible zs_o q_4) s_a1_forms s_a1_words)) rfl rfl rfl (Nat.le_of_ble_eq_true rfl) ⟨rfl, rfl, Nat.le_of_ble_eq_true rfl, Nat.le_of_ble_eq_true rfl⟩ dX2_wordsOf_97 ?_
        refine g_inc cx (L2 := fun v5_5 => [(5, .int v5_5), (0, .ref (o 0)), (1, .ref (a1 0)), (2, .int x2), (3, .int x3), (4, .int x4), (6, .int v6), (7, .int v7), (8, .int v8)]) 5 hf dX2_wordsOf_100 rfl (k_inc1 _) (Nat.le_of_ble_eq_true rfl) (fun _ => rfl) (fun v5_5 hf => ?_)
        refine g_goto (tgt := 3) cx dX2_wordsOf_103 rfl ?_
        refine g_sub [1, 2, 3, 4, 5, 0] rfl ?_
        exact kh3 _ _ hf
      · refine g_aln cx 0 dX2_wordsOf_40 rfl ?_
        refine g_il cx 5 dX2_wordsOf_41 rfl ?_
        refine g_il cx 8 dX2_wordsOf_43 rfl ?_
        refine ob hf (fun q_6 hq_6 hf => ?_)
        refine g_callVGlR cx lk_RX2_60 (c_X2_waysAt l D cB cI cJ cZ o zs_o v5 v8 q_6 hq_6) rfl [1] rfl rfl (ci := 2) (q1 := 0) rfl rfl rfl (Nat.le_of_ble_eq_true rfl) ⟨rfl, rfl, Nat.le_of_ble_eq_true rfl, Nat.le_of_ble_eq_true rfl⟩ dX2_wordsOf_45 ?_
        refine g_lc cx dX2_wordsOf_48 rfl ?_
        refine g_lcmp cx dX2_wordsOf_49 ?_
        refine g_if_le (tgt := 83) cx hf dX2_wordsOf_50 rfl (fun hf => ?_) (fun hf => ?_)
        · exact h83 _ kh3 _ ih _ _ _ _ _ hf
        · refine g_il cx 6 dX2_wordsOf_53 rfl ?_
          refine g_if_lt (tgt := 74) cx hf dX2_wordsOf_55 rfl (fun hf => ?_) (fun hf => ?_)
          · exact h74 _ kh3 _ ih _ _ _ _ _ hf
          · refine g_aln cx 0 dX2_wordsOf_58 rfl ?_
            refine g_aln cx 1 dX2_wordsOf_59 rfl ?_
            refine fg_RX2_49 cx 0 rfl rfl dX2_wordsOf_60 ?_
            refine g_iln cx 3 dX2_wordsOf_63 rfl ?_
            refine g_il cx 6 dX2_wordsOf_64 rfl ?_
            refine g_il cx 8 dX2_wordsOf_66 rfl ?_
            refine ob hf (fun q_7 hq_7 hf => ?_)
            refine g_callVGiR cx lk_RX2_64 (c_X2_isReached l D cB cI cJ cZ a1_words o s_a1_words zs_o x3 v6 v8 q_7 hq_7) rfl [3, 1] rfl rfl (ci := 2) (q1 := 4) rfl rfl rfl (Nat.le_of_ble_eq_true rfl) ⟨rfl, rfl, Nat.le_of_ble_eq_true rfl, Nat.le_of_ble_eq_true rfl⟩ dX2_wordsOf_68 ?_
            refine g_if_eq (tgt := 83) cx hf dX2_wordsOf_71 rfl (fun hf => ?_) (fun hf => ?_)
            · exact h83 _ kh3 _ ih _ _ _ _ _ hf
            · exact h74 _ kh3 _ ih _ _ _ _ _ hf
  have h3 : ∀ (n : Nat) (v5 : Int32) (zs_o : S2), F_X2_wordsOf_b3 s_a1 s_a1_forms s_a1_words x2 x3 x4 n v5 zs_o = some r → gW p l e rm_X2_wordsOf s m args below meth c D A 9 (MQ below (QM D (tyL cB cI cJ cZ) (some (.int r.1)) (w_X2_wordsOf a1 o a1_forms a1_words a1_paper a1_stock cB cI cJ cZ s_a1 s_o s_a1_forms s_a1_words) (w_X2_wordsOf a1 o a1_forms a1_words a1_paper a1_stock cB cI cJ cZ s_a1 r.2 s_a1_forms s_a1_words) s.heap.size) args s 0 0 A) 0 0 (w_X2_wordsOf a1 o a1_forms a1_words a1_paper a1_stock cB cI cJ cZ s_a1 zs_o s_a1_forms s_a1_words) [(0, .ref (o 0)), (1, .ref (a1 0)), (2, .int x2), (3, .int x3), (4, .int x4), (5, .int v5)] 3 [] := by
    intro n
    induction n with
    | zero => intro v5 zs_o hf; rw [F_X2_wordsOf_b3] at hf; cases hf
    | succ n ih =>
      intro v5 zs_o hf
      rw [F_X2_wordsOf_b3] at hf
      refine g_il cx 5 dX2_wordsOf_3 rfl ?_
      refine g_il cx 4 dX2_wordsOf_5 rfl ?_
      refine g_ic_gt (tgt := 106) cx hf dX2_wordsOf_7 rfl (fun hf => ?_) (fun hf => ?_)
      · refine g_aln cx 0 dX2_wordsOf_106 rfl ?_
        refine fg_RX2_15 cx 2 rfl rfl dX2_wordsOf_107 ?_
        refine g_il cx 4 dX2_wordsOf_110 rfl ?_
        refine ob hf (fun q_8 hq_8 hf => ?_)
        refine g_callSiR cx lk_RX2_74 (c_X6_at l D cB cI cJ cZ (o 2) 8 (s2_possible zs_o) x4 q_8 hq_8) rfl [4] rfl rfl rfl (Nat.le_of_ble_eq_true rfl) ⟨rfl, rfl, Nat.le_of_ble_eq_true rfl, Nat.le_of_ble_eq_true rfl⟩ dX2_wordsOf_112 ?_
        refine ob hf (fun q_9 hq_9 hf => ?_)
        refine g_callSiR cx lk_RX2_78 (c_J6_bitCount_0f7a4 l D cB cI cJ cZ q_8 q_9 hq_9) rfl [] rfl rfl rfl (Nat.le_of_ble_eq_true rfl) ⟨rfl, rfl, Nat.le_of_ble_eq_true rfl, Nat.le_of_ble_eq_true rfl⟩ dX2_wordsOf_115 ?_
        exact g_iret (ovf := fun (r : Int32 × S2) => (some (.int r.1))) (wf := fun (r : Int32 × S2) => (w_X2_wordsOf a1 o a1_forms a1_words a1_paper a1_stock cB cI cJ cZ s_a1 r.2 s_a1_forms s_a1_words)) cx hA hr hf rfl rfl dX2_wordsOf_118
      · refine g_aln cx 1 dX2_wordsOf_10 rfl ?_
        refine fg_RX2_31 cx 0 rfl rfl dX2_wordsOf_11 ?_
        refine g_iln cx 2 dX2_wordsOf_14 rfl ?_
        refine g_il cx 5 dX2_wordsOf_15 rfl ?_
        refine ob hf (fun q_10 hq_10 hf => ?_)
        refine g_callVGiR cx lk_RX2_45 (c_X1_ahead l D cB cI cJ cZ a1_forms s_a1_forms x2 v5 q_10 hq_10) rfl [2] rfl rfl (ci := 1) (q1 := 0) rfl rfl rfl (Nat.le_of_ble_eq_true rfl) ⟨rfl, rfl, Nat.le_of_ble_eq_true rfl, Nat.le_of_ble_eq_true rfl⟩ dX2_wordsOf_17 ?_
        refine g_is cx (L2 := fun v6_11 => [(6, .int v6_11), (0, .ref (o 0)), (1, .ref (a1 0)), (2, .int x2), (3, .int x3), (4, .int x4), (5, .int v5)]) hf dX2_wordsOf_20 (Nat.le_of_ble_eq_true rfl) (fun _ => rfl) (fun v6_11 hf => ?_)
        refine g_ic cx dX2_wordsOf_22 k_ic0 ?_
        refine g_is cx (L2 := fun v7_12 => [(7, .int v7_12), (6, .int v6_11), (0, .ref (o 0)), (1, .ref (a1 0)), (2, .int x2), (3, .int x3), (4, .int x4), (5, .int v5)]) hf dX2_wordsOf_23 (Nat.le_of_ble_eq_true rfl) (fun _ => rfl) (fun v7_12 hf => ?_)
        refine g_ic cx dX2_wordsOf_25 k_ic0 ?_
        refine g_is cx (L2 := fun v8_13 => [(8, .int v8_13), (7, .int v7_12), (6, .int v6_11), (0, .ref (o 0)), (1, .ref (a1 0)), (2, .int x2), (3, .int x3), (4, .int x4), (5, .int v5)]) hf dX2_wordsOf_26 (Nat.le_of_ble_eq_true rfl) (fun _ => rfl) (fun v8_13 hf => ?_)
        refine g_sub [3, 4, 5, 6, 7, 8, 2, 1, 0] rfl ?_
        exact h28 _ ih fu _ _ _ _ _ hf
  rw [F_X2_wordsOf] at hf
  refine g_ic cx dX2_wordsOf_0 k_ic0 ?_
  refine g_is cx (L2 := fun v5_14 => [(5, .int v5_14), (0, .ref (o 0)), (1, .ref (a1 0)), (2, .int x2), (3, .int x3), (4, .int x4)]) hf dX2_wordsOf_1 (Nat.le_of_ble_eq_true rfl) (fun _ => rfl) (fun v5_14 hf => ?_)
  refine g_sub [1, 2, 3, 4, 5, 0] rfl ?_
  exact h3 fu _ _ hf
