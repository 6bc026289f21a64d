theorem dX12_in_0 : decode cX12_in 0 = .ok (.iload_n 0, 1) := by decide +kernel
theorem dX12_in_1 : decode cX12_in 1 = .ok (.iload_n 1, 1) := by decide +kernel
theorem dX12_in_2 : decode cX12_in 2 = .ok (.if_icmp .lt 12, 3) := by decide +kernel
theorem dX12_in_5 : decode cX12_in 5 = .ok (.iload_n 0, 1) := by decide +kernel
theorem dX12_in_6 : decode cX12_in 6 = .ok (.iload_n 2, 1) := by decide +kernel
theorem dX12_in_7 : decode cX12_in 7 = .ok (.if_icmp .gt 7, 3) := by decide +kernel
theorem dX12_in_10 : decode cX12_in 10 = .ok (.iconst 1, 1) := by decide +kernel
theorem dX12_in_11 : decode cX12_in 11 = .ok (.goto 4, 3) := by decide +kernel
theorem dX12_in_14 : decode cX12_in 14 = .ok (.iconst 0, 1) := by decide +kernel
theorem dX12_in_15 : decode cX12_in 15 = .ok (.ireturn, 1) := by decide +kernel


def F_X12_in (x0 : Int32) (x1 : Int32) (x2 : Int32) : Option (Int32) := (if x0 < x1 then some (0) else (if x2 < x0 then some (0) else some (1)))
def w_X12_in (cB cI cJ cZ : ClassId) : va_W := List.flatten []
abbrev rm_X12_in : Room := { frames := 0, cells := 0, slots := 0, locals := 0 }
set_option maxHeartbeats 4000000 in
set_option maxRecDepth 100000 in
theorem c_X12_in (l : Launch) (D : gG) (cB cI cJ cZ : ClassId) (x0 : Int32) (x1 : Int32) (x2 : Int32) (r : Int32) (hf : F_X12_in x0 x1 x2 = some r) : gM l D (tyL cB cI cJ cZ) yX12_in cX12_in 3 (some .boolean) rm_X12_in [.int x0, .int x1, .int x2] (w_X12_in cB cI cJ cZ) (some (.int r)) (w_X12_in cB cI cJ cZ) := by
  refine met_of (by decide) (Nat.le_of_ble_eq_true rfl) ?_
  intro p e s m args below meth c A cx hr hA
  show gW p l e rm_X12_in s m args below meth c D A 3 _ 0 0 _ [(0, .int x0), (1, .int x1), (2, .int x2)] 0 []
  rw [F_X12_in] at hf
  refine g_iln cx 0 dX12_in_0 rfl ?_
  refine g_iln cx 1 dX12_in_1 rfl ?_
  refine g_ic_lt (tgt := 14) cx hf dX12_in_2 rfl (fun hf => ?_) (fun hf => ?_)
  · refine g_ic cx dX12_in_14 k_ic0 ?_
    exact g_zret (ovf := fun (r : Int32) => (some (.int r))) (wf := fun (r : Int32) => (w_X12_in cB cI cJ cZ)) cx hA hr rfl hf rfl rfl dX12_in_15
  · refine g_iln cx 0 dX12_in_5 rfl ?_
    refine g_iln cx 2 dX12_in_6 rfl ?_
    refine g_ic_gt (tgt := 14) cx hf dX12_in_7 rfl (fun hf => ?_) (fun hf => ?_)
    · refine g_ic cx dX12_in_14 k_ic0 ?_
      exact g_zret (ovf := fun (r : Int32) => (some (.int r))) (wf := fun (r : Int32) => (w_X12_in cB cI cJ cZ)) cx hA hr rfl hf rfl rfl dX12_in_15
    · refine g_ic cx dX12_in_10 k_ic1 ?_
      refine g_goto (tgt := 15) cx dX12_in_11 rfl ?_
      exact g_zret (ovf := fun (r : Int32) => (some (.int r))) (wf := fun (r : Int32) => (w_X12_in cB cI cJ cZ)) cx hA hr rfl hf rfl rfl dX12_in_15
theorem dX12_type_0 : decode cX12_type 0 = .ok (.aload_n 0, 1) := by decide +kernel
theorem dX12_type_1 : decode cX12_type 1 = .ok (.iconst 0, 1) := by decide +kernel
theorem dX12_type_2 : decode cX12_type 2 = .ok (.putfield 78, 3) := by decide +kernel
theorem dX12_type_5 : decode cX12_type 5 = .ok (.iload_n 3, 1) := by decide +kernel
theorem dX12_type_6 : decode cX12_type 6 = .ok (.iconst 1, 1) := by decide +kernel
theorem dX12_type_7 : decode cX12_type 7 = .ok (.bipush 8, 2) := by decide +kernel
theorem dX12_type_9 : decode cX12_type 9 = .ok (.invokestatic 82, 3) := by decide +kernel
theorem dX12_type_12 : decode cX12_type 12 = .ok (.ifCond .ne 5, 3) := by decide +kernel
theorem dX12_type_15 : decode cX12_type 15 = .ok (.iconst (-1), 1) := by decide +kernel
theorem dX12_type_16 : decode cX12_type 16 = .ok (.ireturn, 1) := by decide +kernel
theorem dX12_type_17 : decode cX12_type 17 = .ok (.aload_n 0, 1) := by decide +kernel
theorem dX12_type_18 : decode cX12_type 18 = .ok (.getfield 86, 3) := by decide +kernel
theorem dX12_type_21 : decode cX12_type 21 = .ok (.iload_n 3, 1) := by decide +kernel
theorem dX12_type_22 : decode cX12_type 22 = .ok (.iadd, 1) := by decide +kernel
theorem dX12_type_23 : decode cX12_type 23 = .ok (.sipush 500, 3) := by decide +kernel
theorem dX12_type_26 : decode cX12_type 26 = .ok (.if_icmp .le 6, 3) := by decide +kernel
theorem dX12_type_29 : decode cX12_type 29 = .ok (.bipush (-3), 2) := by decide +kernel
theorem dX12_type_31 : decode cX12_type 31 = .ok (.ireturn, 1) := by decide +kernel
theorem dX12_type_32 : decode cX12_type 32 = .ok (.iload_n 3, 1) := by decide +kernel
theorem dX12_type_33 : decode cX12_type 33 = .ok (.iconst 1, 1) := by decide +kernel
theorem dX12_type_34 : decode cX12_type 34 = .ok (.isub, 1) := by decide +kernel
theorem dX12_type_35 : decode cX12_type 35 = .ok (.istore 4, 2) := by decide +kernel
theorem dX12_type_37 : decode cX12_type 37 = .ok (.iload 4, 2) := by decide +kernel
theorem dX12_type_39 : decode cX12_type 39 = .ok (.ifCond .lt 40, 3) := by decide +kernel
theorem dX12_type_42 : decode cX12_type 42 = .ok (.aload_n 0, 1) := by decide +kernel
theorem dX12_type_43 : decode cX12_type 43 = .ok (.getfield 7, 3) := by decide +kernel
theorem dX12_type_46 : decode cX12_type 46 = .ok (.aload_n 0, 1) := by decide +kernel
theorem dX12_type_47 : decode cX12_type 47 = .ok (.getfield 86, 3) := by decide +kernel
theorem dX12_type_50 : decode cX12_type 50 = .ok (.lload_n 1, 1) := by decide +kernel
theorem dX12_type_51 : decode cX12_type 51 = .ok (.bipush 8, 2) := by decide +kernel
theorem dX12_type_53 : decode cX12_type 53 = .ok (.iload 4, 2) := by decide +kernel
theorem dX12_type_55 : decode cX12_type 55 = .ok (.imul, 1) := by decide +kernel
theorem dX12_type_56 : decode cX12_type 56 = .ok (.lshr, 1) := by decide +kernel
theorem dX12_type_57 : decode cX12_type 57 = .ok (.ldc2_w 89, 3) := by decide +kernel
theorem dX12_type_60 : decode cX12_type 60 = .ok (.land, 1) := by decide +kernel
theorem dX12_type_61 : decode cX12_type 61 = .ok (.l2i, 1) := by decide +kernel
theorem dX12_type_62 : decode cX12_type 62 = .ok (.iastore, 1) := by decide +kernel
theorem dX12_type_63 : decode cX12_type 63 = .ok (.aload_n 0, 1) := by decide +kernel
theorem dX12_type_64 : decode cX12_type 64 = .ok (.dup, 1) := by decide +kernel
theorem dX12_type_65 : decode cX12_type 65 = .ok (.getfield 86, 3) := by decide +kernel
theorem dX12_type_68 : decode cX12_type 68 = .ok (.iconst 1, 1) := by decide +kernel
theorem dX12_type_69 : decode cX12_type 69 = .ok (.iadd, 1) := by decide +kernel
theorem dX12_type_70 : decode cX12_type 70 = .ok (.putfield 86, 3) := by decide +kernel
theorem dX12_type_73 : decode cX12_type 73 = .ok (.iinc 4 (-1), 3) := by decide +kernel
theorem dX12_type_76 : decode cX12_type 76 = .ok (.goto (-39), 3) := by decide +kernel
theorem dX12_type_79 : decode cX12_type 79 = .ok (.aload_n 0, 1) := by decide +kernel
theorem dX12_type_80 : decode cX12_type 80 = .ok (.getfield 86, 3) := by decide +kernel
theorem dX12_type_83 : decode cX12_type 83 = .ok (.ireturn, 1) := by decide +kernel
theorem q1_12 : Cond.initialized RX12 ∈ TT := tq1 12 rfl rfl
theorem q4_223 : Cond.fieldLink RX12 78 "RhymeLawModel" "thrown" "I" ∈ TT := tq4 223 rfl rfl
theorem q4_225 : Cond.fieldLink RX12 7 "RhymeLawModel" "text" "[I" ∈ TT := tq4 225 rfl rfl
theorem q4_226 : Cond.fieldLink RX12 86 "RhymeLawModel" "typed" "I" ∈ TT := tq4 226 rfl rfl
theorem q5_103 : Cond.methodLink RX12 82 yX12_in ∈ TT := tq5 103 rfl rfl
theorem q5_104 : Cond.static yX12_in ∈ TT := tq5 104 rfl rfl
theorem q5_105 : Cond.code yX12_in cX12_in 3 (some .boolean) ∈ TT := tq5 105 rfl rfl
theorem q5_106 : Cond.constantLong RX12 89 (255) ∈ TT := tq5 106 rfl rfl
theorem fg_RX12_86 {p : Program} {l : Launch} {e : Env} {R : Room} {s : State} {m : MethodId} {args : Array Value} {below : List Frame} {meth : Method} {c : Code} {D : gG} {tys : List (ClassId × FieldType)} {A : Nat → Prop} {nL : Nat} {Q : State → Prop} {cells slots : Nat} {cc : ByteArray} {ws : va_W} {L : List (Nat × Value)} {pc : Nat} {stk : List Value} (cx : gX p s m args meth c cc nL RX12 D tys A) {a : Nat} {fs : List Value} {v : Value} (q0 : Nat) (he : ws[q0]? = some (a, .inr (10, fs))) (hv : fs[3]? = some v) (hd : decode cc pc = .ok (.getfield 86, 3)) (kk : gW p l e R s m args below meth c D A nL Q cells slots ws L (pc + 3) (v :: stk)) : gW p l e R s m args below meth c D A nL Q cells slots ws L pc (.ref a :: stk) :=
  g_get cx (C := RX12) (T := TX12) (N := 38) inT12 rfl 3 (Nat.le_of_ble_eq_true rfl) q4_226 rfl q0 he hv hd kk
theorem mg_typed {p : Program} {l : Launch} {e : Env} {R : Room} {s : State} {m : MethodId} {args : Array Value} {below : List Frame} {meth : Method} {c : Code} {D : gG} {A : Nat → Prop} {nL : Nat} {Q : State → Prop} {cells slots : Nat} {cc : ByteArray} {L : List (Nat × Value)} {pc : Nat} {stk : List Value} {o : Nat → Nat} {cB cI cJ cZ : ClassId} {z : SM} (cx : gX p s m args meth c cc nL RX12 D (tyL cB cI cJ cZ) A) (hd : decode cc pc = .ok (.getfield 86, 3)) (kk : gW p l e R s m args below meth c D A nL Q cells slots (wX12 o cB cI cJ cZ z) L (pc + 3) (.int (mI z 3) :: stk)) : gW p l e R s m args below meth c D A nL Q cells slots (wX12 o cB cI cJ cZ z) L pc (.ref (o 0) :: stk) :=
  fg_RX12_86 cx 0 rfl rfl hd kk
theorem fg_RX12_7 {p : Program} {l : Launch} {e : Env} {R : Room} {s : State} {m : MethodId} {args : Array Value} {below : List Frame} {meth : Method} {c : Code} {D : gG} {tys : List (ClassId × FieldType)} {A : Nat → Prop} {nL : Nat} {Q : State → Prop} {cells slots : Nat} {cc : ByteArray} {ws : va_W} {L : List (Nat × Value)} {pc : Nat} {stk : List Value} (cx : gX p s m args meth c cc nL RX12 D tys A) {a : Nat} {fs : List Value} {v : Value} (q0 : Nat) (he : ws[q0]? = some (a, .inr (10, fs))) (hv : fs[2]? = some v) (hd : decode cc pc = .ok (.getfield 7, 3)) (kk : gW p l e R s m args below meth c D A nL Q cells slots ws L (pc + 3) (v :: stk)) : gW p l e R s m args below meth c D A nL Q cells slots ws L pc (.ref a :: stk) :=
  g_get cx (C := RX12) (T := TX12) (N := 38) inT12 rfl 2 (Nat.le_of_ble_eq_true rfl) q4_225 rfl q0 he hv hd kk
theorem mg_text {p : Program} {l : Launch} {e : Env} {R : Room} {s : State} {m : MethodId} {args : Array Value} {below : List Frame} {meth : Method} {c : Code} {D : gG} {A : Nat → Prop} {nL : Nat} {Q : State → Prop} {cells slots : Nat} {cc : ByteArray} {L : List (Nat × Value)} {pc : Nat} {stk : List Value} {o : Nat → Nat} {cB cI cJ cZ : ClassId} {z : SM} (cx : gX p s m args meth c cc nL RX12 D (tyL cB cI cJ cZ) A) (hd : decode cc pc = .ok (.getfield 7, 3)) (kk : gW p l e R s m args below meth c D A nL Q cells slots (wX12 o cB cI cJ cZ z) L (pc + 3) (.ref (o 1) :: stk)) : gW p l e R s m args below meth c D A nL Q cells slots (wX12 o cB cI cJ cZ z) L pc (.ref (o 0) :: stk) :=
  fg_RX12_7 cx 0 rfl rfl hd kk
theorem fp_RX12_86 {p : Program} {l : Launch} {e : Env} {R : Room} {s : State} {m : MethodId} {args : Array Value} {below : List Frame} {meth : Method} {c : Code} {D : gG} {tys : List (ClassId × FieldType)} {A : Nat → Prop} {nL : Nat} {Q : State → Prop} {cells slots : Nat} {cc : ByteArray} {ws : va_W} {L : List (Nat × Value)} {pc : Nat} {stk : List Value} (cx : gX p s m args meth c cc nL RX12 D tys A) {a : Nat} {fs : List Value} {x : Int32} (q0 : Nat) (he : ws[q0]? = some (a, .inr (10, fs))) (hl : 3 < fs.length) {ws' : va_W} (hw : ws.set q0 (a, .inr (10, fs.set 3 (.int x))) = ws') (hd : decode cc pc = .ok (.putfield 86, 3)) (kk : gW p l e R s m args below meth c D A nL Q cells slots ws' L (pc + 3) stk) : gW p l e R s m args below meth c D A nL Q cells slots ws L pc (.int x :: .ref a :: stk) :=
  g_put cx (C := RX12) (T := TX12) (N := 38) (ty0 := tyX12) (ty := .int) inT12 tyX12_ok nmX12 rfl 3 (Nat.le_of_ble_eq_true rfl) q4_226 rfl rfl rfl rfl rfl q0 he hl hw hd kk
theorem mp_typed {p : Program} {l : Launch} {e : Env} {R : Room} {s : State} {m : MethodId} {args : Array Value} {below : List Frame} {meth : Method} {c : Code} {D : gG} {A : Nat → Prop} {nL : Nat} {Q : State → Prop} {cells slots : Nat} {cc : ByteArray} {L : List (Nat × Value)} {pc : Nat} {stk : List Value} {β : Type} {r : β} {o : Nat → Nat} {cB cI cJ cZ : ClassId} {z : SM} (cx : gX p s m args meth c cc nL RX12 D (tyL cB cI cJ cZ) A) {x : Int32} {kf : SM → Option β} (hf : nm (mIs z 3 x) kf = some r) (hd : decode cc pc = .ok (.putfield 86, 3)) (kk : ∀ y : SM, kf y = some r → gW p l e R s m args below meth c D A nL Q cells slots (wX12 o cB cI cJ cZ y) L (pc + 3) stk) : gW p l e R s m args below meth c D A nL Q cells slots (wX12 o cB cI cJ cZ z) L pc (.int x :: .ref (o 0) :: stk) :=
  fp_RX12_86 cx 0 rfl (Nat.le_of_ble_eq_true rfl) (ws' := wX12 o cB cI cJ cZ (mIs z 3 x)) rfl hd (kk _ hf)
theorem ms_text {p : Program} {l : Launch} {e : Env} {R : Room} {s : State} {m : MethodId} {args : Array Value} {below : List Frame} {meth : Method} {c : Code} {D : gG} {A : Nat → Prop} {nL : Nat} {Q : State → Prop} {cells slots : Nat} {cc : ByteArray} {L : List (Nat × Value)} {pc : Nat} {stk : List Value} {β : Type} {r : β} {o : Nat → Nat} {cB cI cJ cZ : ClassId} {z : SM} (cx : gX p s m args meth c cc nL RX12 D (tyL cB cI cJ cZ) A) {i : Int32} {x : Int32} {kf : SM → Option β} (hf : ((aset 500 (mA z 2) i x).bind fun f => nm (mAs z 2 f) kf) = some r) (hd : decode cc pc = .ok (.iastore, 1)) (kk : ∀ y : SM, kf y = some r → gW p l e R s m args below meth c D A nL Q cells slots (wX12 o cB cI cJ cZ y) L (pc + 1) stk) : gW p l e R s m args below meth c D A nL Q cells slots (wX12 o cB cI cJ cZ z) L pc (.int x :: .int i :: .ref (o 1) :: stk) :=
  g_iast cx 1 1 (ws' := fun f => wX12 o cB cI cJ cZ (mAs z 2 f)) hf rfl rfl (fun _ => rfl) hd (fun _ hf => kk _ hf)
theorem fp_RX12_78 {p : Program} {l : Launch} {e : Env} {R : Room} {s : State} {m : MethodId} {args : Array Value} {below : List Frame} {meth : Method} {c : Code} {D : gG} {tys : List (ClassId × FieldType)} {A : Nat → Prop} {nL : Nat} {Q : State → Prop} {cells slots : Nat} {cc : ByteArray} {ws : va_W} {L : List (Nat × Value)} {pc : Nat} {stk : List Value} (cx : gX p s m args meth c cc nL RX12 D tys A) {a : Nat} {fs : List Value} {x : Int32} (q0 : Nat) (he : ws[q0]? = some (a, .inr (10, fs))) (hl : 0 < fs.length) {ws' : va_W} (hw : ws.set q0 (a, .inr (10, fs.set 0 (.int x))) = ws') (hd : decode cc pc = .ok (.putfield 78, 3)) (kk : gW p l e R s m args below meth c D A nL Q cells slots ws' L (pc + 3) stk) : gW p l e R s m args below meth c D A nL Q cells slots ws L pc (.int x :: .ref a :: stk) :=
  g_put cx (C := RX12) (T := TX12) (N := 38) (ty0 := tyX12) (ty := .int) inT12 tyX12_ok nmX12 rfl 0 (Nat.le_of_ble_eq_true rfl) q4_223 rfl rfl rfl rfl rfl q0 he hl hw hd kk
theorem lk_RX12_82 : slk RX12 82 yX12_in cX12_in 3 (some .boolean) 3 := ⟨List.forall_mem_cons.mpr ⟨q5_103, List.forall_mem_cons.mpr ⟨q5_104, List.forall_mem_cons.mpr ⟨q1_12, fun _ h => absurd h List.not_mem_nil⟩⟩⟩, q5_105, by decide, by decide, by decide +kernel⟩
theorem mp_thrown {p : Program} {l : Launch} {e : Env} {R : Room} {s : State} {m : MethodId} {args : Array Value} {below : List Frame} {meth : Method} {c : Code} {D : gG} {A : Nat → Prop} {nL : Nat} {Q : State → Prop} {cells slots : Nat} {cc : ByteArray} {L : List (Nat × Value)} {pc : Nat} {stk : List Value} {β : Type} {r : β} {o : Nat → Nat} {cB cI cJ cZ : ClassId} {z : SM} (cx : gX p s m args meth c cc nL RX12 D (tyL cB cI cJ cZ) A) {x : Int32} {kf : SM → Option β} (hf : nm (mIs z 0 x) kf = some r) (hd : decode cc pc = .ok (.putfield 78, 3)) (kk : ∀ y : SM, kf y = some r → gW p l e R s m args below meth c D A nL Q cells slots (wX12 o cB cI cJ cZ y) L (pc + 3) stk) : gW p l e R s m args below meth c D A nL Q cells slots (wX12 o cB cI cJ cZ z) L pc (.int x :: .ref (o 0) :: stk) :=
  fp_RX12_78 cx 0 rfl (Nat.le_of_ble_eq_true rfl) (ws' := wX12 o cB cI cJ cZ (mIs z 0 x)) rfl hd (kk _ hf)
def F_X12_type_b37 (x1 : Int64) (x3 : Int32) : Nat → Int32 → SM → Option (Int32 × SM)
  | 0, _, _ => none
  | n + 1, v4, zs_o => (if v4 < 0 then some ((mI zs_o 3), zs_o) else (aset 500 (mA zs_o 2) (mI zs_o 3) (Int64.toInt32 ((x1 >>> ((8 * v4).toInt64 &&& 63)) &&& (255)))).bind fun f_1 => nm (mAs zs_o 2 f_1) fun s_o_2 => nm (mIs s_o_2 3 ((mI s_o_2 3) + 1)) fun s_o_3 => nm (v4 - 1) fun v4_4 => (F_X12_type_b37 x1 x3 n) v4_4 s_o_3)
def F_X12_type (s_o : SM) (x1 : Int64) (x3 : Int32) : Option (Int32 × SM) := nm (mIs s_o 0 0) fun s_o_5 => (F_X12_in x3 1 8).bind fun q_6 => (if q_6 = 0 then some ((-1), s_o_5) else (if ((mI s_o_5 3) + x3) ≤ 500 then nm (x3 - 1) fun v4_7 => F_X12_type_b37 x1 x3 fu v4_7 s_o_5 else some ((-3), s_o_5)))

abbrev rm_X12_type : Room := { frames := 1, cells := 0, slots := 0, locals := 22 }
set_option maxHeartbeats 4000000 in
set_option maxRecDepth 100000 in
theorem c_X12_type (l : Launch) (D : gG) (cB cI cJ cZ : ClassId) (o : Nat → Nat) (s_o : SM) (x1 : Int64) (x3 : Int32) (r : Int32 × SM) (hf : F_X12_type s_o x1 x3 = some r) : gM l D (tyL cB cI cJ cZ) yX12_type cX12_type 5 (some .int) rm_X12_type [.ref (o 0), .long x1, .int x3] (wX12 o cB cI cJ cZ s_o) (some (.int r.1)) (wX12 o cB cI cJ cZ r.2) := by
  refine met_of (by decide) (Nat.le_of_ble_eq_true rfl) ?_
  intro p e s m args below meth c A cx hr hA
  show gW p l e rm_X12_type s m args below meth c D A 5 _ 0 0 _ [(0, .ref (o 0)), (1, .long x1), (3, .int x3)] 0 []
  have h37 : ∀ (n : Nat) (v4 : Int32) (zs_o : SM), F_X12_type_b37 x1 x3 n v4 zs_o = some r → gW p l e rm_X12_type s m args below meth c D A 5 (MQ below (QM D (tyL cB cI cJ cZ) (some (.int r.1)) (wX12 o cB cI cJ cZ s_o) (wX12 o cB cI cJ cZ r.2) s.heap.size) args s 0 0 A) 0 0 (wX12 o cB cI cJ cZ zs_o) [(0, .ref (o 0)), (1, .long x1), (4, .int v4)] 37 [] := by
    intro n
    induction n with
    | zero => intro v4 zs_o hf; rw [F_X12_type_b37] at hf; cases hf
    | succ n ih =>
      intro v4 zs_o hf
      rw [F_X12_type_b37] at hf
      refine g_il cx 2 dX12_type_37 rfl ?_
      refine g_if_lt (tgt := 79) cx hf dX12_type_39 rfl (fun hf => ?_) (fun hf => ?_)
      · refine g_aln cx 0 dX12_type_79 rfl ?_
        refine mg_typed cx dX12_type_80 ?_
        exact g_iret (ovf := fun (r : Int32 × SM) => (some (.int r.1))) (wf := fun (r : Int32 × SM) => (wX12 o cB cI cJ cZ r.2)) cx hA hr hf rfl rfl dX12_type_83
      · refine g_aln cx 0 dX12_type_42 rfl ?_
        refine mg_text cx dX12_type_43 ?_
        refine g_aln cx 0 dX12_type_46 rfl ?_
        refine mg_typed cx dX12_type_47 ?_
        refine g_lln cx 1 dX12_type_50 rfl ?_
        refine g_bp cx dX12_type_51 k_bp8 ?_
        refine g_il cx 2 dX12_type_53 rfl ?_
        refine g_imul cx dX12_type_55 ?_
        refine g_lshr cx dX12_type_56 ?_
        refine g_ldc2 cx q5_106 dX12_type_57 ?_
        refine g_land cx dX12_type_60 ?_
        refine g_l2i cx dX12_type_61 ?_
        refine ms_text cx hf dX12_type_62 (fun s_o_2 hf => ?_)
        refine g_aln cx 0 dX12_type_63 rfl ?_
        refine g_dup cx dX12_type_64 rfl ?_
        refine mg_typed cx dX12_type_65 ?_
        refine g_ic cx dX12_type_68 k_ic1 ?_
        refine g_iadd cx dX12_type_69 ?_
        refine mp_typed cx hf dX12_type_70 (fun s_o_3 hf => ?_)
        refine g_inc cx (L2 := fun v4_4 => [(4, .int v4_4), (0, .ref (o 0)), (1, .long x1)]) 2 hf dX12_type_73 rfl (k_incm1 _) (Nat.le_of_ble_eq_true rfl) (fun _ => rfl) (fun v4_4 hf => ?_)
        refine g_goto (tgt := 37) cx dX12_type_76 rfl ?_
        refine g_sub [1, 2, 0] rfl ?_
        exact ih _ _ hf
  rw [F_X12_type] at hf
  refine g_aln cx 0 dX12_type_0 rfl ?_
  refine g_ic cx dX12_type_1 k_ic0 ?_
  refine mp_thrown cx hf dX12_type_2 (fun s_o_5 hf => ?_)
  refine g_iln cx 2 dX12_type_5 rfl ?_
  refine g_ic cx dX12_type_6 k_ic1 ?_
  refine g_bp cx dX12_type_7 k_bp8 ?_
  refine ob hf (fun q_6 hq_6 hf => ?_)
  refine g_callSiR cx lk_RX12_82 (c_X12_in l D cB cI cJ cZ x3 1 8 q_6 hq_6) rfl [] rfl rfl rfl (Nat.le_of_ble_eq_true rfl) ⟨rfl, rfl, Nat.le_of_ble_eq_true rfl, Nat.le_of_ble_eq_true rfl⟩ dX12_type_9 ?_
  refine g_if_ne (tgt := 17) cx hf dX12_type_12 rfl (fun hf => ?_) (fun hf => ?_)
  · refine g_aln cx 0 dX12_type_17 rfl ?_
    refine mg_typed cx dX12_type_18 ?_
    refine g_iln cx 2 dX12_type_21 rfl ?_
    refine g_iadd cx dX12_type_22 ?_
    refine g_sp cx dX12_type_23 k_sp500 ?_
    refine g_ic_le (tgt := 32) cx hf dX12_type_26 rfl (fun hf => ?_) (fun hf => ?_)
    · refine g_iln cx 2 dX12_type_32 rfl ?_
      refine g_ic cx dX12_type_33 k_ic1 ?_
      refine g_isub cx dX12_type_34 ?_
      refine g_is cx (L2 := fun v4_7 => [(4, .int v4_7), (0, .ref (o 0)), (1, .long x1), (3, .int x3)]) hf dX12_type_35 (Nat.le_of_ble_eq_true rfl) (fun _ => rfl) (fun v4_7 hf => ?_)
      refine g_sub [1, 2, 0] rfl ?_
      exact h37 fu _ _ hf
    · refine g_bp cx dX12_type_29 k_bpm3 ?_
      exact g_iret (ovf := fun (r : Int32 × SM) => (some (.int r.1))) (wf := fun (r : Int32 × SM) => (wX12 o cB cI cJ cZ r.2)) cx hA hr hf rfl rfl dX12_type_31
  · refine g_ic cx dX12_type_15 k_icm1 ?_
    exact g_iret (ovf := fun (r : Int32 × SM) => (some (.int r.1))) (wf := fun (r : Int32 × SM) => (wX12 o cB cI cJ cZ r.2)) cx hA hr hf rfl rfl dX12_type_16
theorem dX12_clear_0 : decode cX12_clear 0 = .ok (.aload_n 0, 1) := by decide +kernel
theorem dX12_clear_1 : decode cX12_clear 1 = .ok (.iconst 0, 1) := by decide +kernel
theorem dX12_clear_2 : decode cX12_clear 2 = .ok (.putfield 78, 3) := by decide +kernel
theorem dX12_clear_5 : decode cX12_clear 5 = .ok (.aload_n 0, 1) := by decide +kernel
theorem dX12_clear_6 : decode cX12_clear 6 = .ok (.getfield 86, 3) := by decide +kernel
theorem dX12_clear_9 : decode cX12_clear 9 = .ok (.istore_n 1, 1) := by decide +kernel
theorem dX12_clear_10 : decode cX12_clear 10 = .ok (.aload_n 0, 1) := by decide +kernel
theorem dX12_clear_11 : decode cX12_clear 11 = .ok (.iconst 0, 1) := by decide +kernel
theorem dX12_clear_12 : decode cX12_clear 12 = .ok (.putfield 86, 3) := by decide +kernel
theorem dX12_clear_15 : decode cX12_clear 15 = .ok (.iload_n 1, 1) := by decide +kernel
theorem dX12_clear_16 : decode cX12_clear 16 = .ok (.ireturn, 1) := by decide +kernel


def F_X12_clear (s_o : SM) : Option (Int32 × SM) := nm (mIs s_o 0 0) fun s_o_1 => nm (mI s_o_1 3) fun v1_2 => nm (mIs s_o_1 3 0) fun s_o_3 => some (v1_2, s_o_3)

abbrev rm_X12_clear : Room := { frames := 0, cells := 0, slots := 0, locals := 0 }
set_option maxHeartbeats 4000000 in
set_option maxRecDepth 100000 in
theorem c_X12_clear (l : Launch) (D : gG) (cB cI cJ cZ : ClassId) (o : Nat → Nat) (s_o : SM) (r : Int32 × SM) (hf : F_X12_clear s_o = some r) : gM l D (tyL cB cI cJ cZ) yX12_clear cX12_clear 2 (some .int) rm_X12_clear [.ref (o 0)] (wX12 o cB cI cJ cZ s_o) (some (.int r.1)) (wX12 o cB cI cJ cZ r.2) := by
  refine met_of (by decide) (Nat.le_of_ble_eq_true rfl) ?_
  intro p e s m args below meth c A cx hr hA
  show gW p l e rm_X12_clear s m args below meth c D A 2 _ 0 0 _ [(0, .ref (o 0))] 0 []
  rw [F_X12_clear] at hf
  refine g_aln cx 0 dX12_clear_0 rfl ?_
  refine g_ic cx dX12_clear_1 k_ic0 ?_
  refine mp_thrown cx hf dX12_clear_2 (fun s_o_1 hf => ?_)
  refine g_aln cx 0 dX12_clear_5 rfl ?_
  refine mg_typed cx dX12_clear_6 ?_
  refine g_isn cx (L2 := fun v1_2 => [(1, .int v1_2), (0, .ref (o 0))]) hf dX12_clear_9 (Nat.le_of_ble_eq_true rfl) (fun _ => rfl) (fun v1_2 hf => ?_)
  refine g_aln cx 1 dX12_clear_10 rfl ?_
  refine g_ic cx dX12_clear_11 k_ic0 ?_
  refine mp_typed cx hf dX12_clear_12 (fun s_o_3 hf => ?_)
  refine g_iln cx 0 dX12_clear_15 rfl ?_
  exact g_iret (ovf := fun (r : Int32 × SM) => (some (.int r.1))) (wf := fun (r : Int32 × SM) => (wX12 o cB cI cJ cZ r.2)) cx hA hr hf rfl rfl dX12_clear_16
theorem dX12_byteAt_0 : decode cX12_byteAt 0 = .ok (.iload_n 1, 1) := by decide +kernel
theorem dX12_byteAt_1 : decode cX12_byteAt 1 = .ok (.aload_n 0, 1) := by decide +kernel
theorem dX12_byteAt_2 : decode cX12_byteAt 2 = .ok (.getfield 86, 3) := by decide +kernel
theorem dX12_byteAt_5 : decode cX12_byteAt 5 = .ok (.if_icmp .ge 12, 3) := by decide +kernel
theorem dX12_byteAt_8 : decode cX12_byteAt 8 = .ok (.aload_n 0, 1) := by decide +kernel
theorem dX12_byteAt_9 : decode cX12_byteAt 9 = .ok (.getfield 7, 3) := by decide +kernel
theorem dX12_byteAt_12 : decode cX12_byteAt 12 = .ok (.iload_n 1, 1) := by decide +kernel
theorem dX12_byteAt_13 : decode cX12_byteAt 13 = .ok (.iaload, 1) := by decide +kernel
theorem dX12_byteAt_14 : decode cX12_byteAt 14 = .ok (.goto 4, 3) := by decide +kernel
theorem dX12_byteAt_17 : decode cX12_byteAt 17 = .ok (.iconst (-1), 1) := by decide +kernel
theorem dX12_byteAt_18 : decode cX12_byteAt 18 = .ok (.ireturn, 1) := by decide +kernel

theorem ml_text {p : Program} {l : Launch} {e : Env} {R : Room} {s : State} {m : MethodId} {args : Array Value} {below : List Frame} {meth : Method} {c : Code} {D : gG} {A : Nat → Prop} {nL : Nat} {Q : State → Prop} {cells slots : Nat} {cc : ByteArray} {L : List (Nat × Value)} {pc : Nat} {stk : List Value} {β : Type} {r : β} {o : Nat → Nat} {cB cI cJ cZ : ClassId} {z : SM} (cx : gX p s m args meth c cc nL RX12 D (tyL cB cI cJ cZ) A) {i : Int32} {kf : Int32 → Option β} (hf : (aget 500 (mA z 2) i).bind kf = some r) (hd : decode cc pc = .ok (.iaload, 1)) (kk : ∀ v : Int32, kf v = some r → gW p l e R s m args below meth c D A nL Q cells slots (wX12 o cB cI cJ cZ z) L (pc + 1) (.int v :: stk)) : gW p l e R s m args below meth c D A nL Q cells slots (wX12 o cB cI cJ cZ z) L pc (.int i :: .ref (o 1) :: stk) :=
  g_iald cx 1 1 hf rfl rfl hd kk
def F_X12_byteAt (s_o : SM) (x1 : Int32) : Option (Int32) := (if (mI s_o 3) ≤ x1 then some ((-1)) else (aget 500 (mA s_o 2) x1).bind fun e_1 => some (e_1))

abbrev rm_X12_byteAt : Room := { frames := 0, cells := 0, slots := 0, locals := 0 }
set_option maxHeartbeats 4000000 in
set_option maxRecDepth 100000 in
theorem c_X12_byteAt (l : Launch) (D : gG) (cB cI cJ cZ : ClassId) (o : Nat → Nat) (s_o : SM) (x1 : Int32) (r : Int32) (hf : F_X12_byteAt s_o x1 = some r) : gM l D (tyL cB cI cJ cZ) yX12_byteAt cX12_byteAt 2 (some .int) rm_X12_byteAt [.ref (o 0), .int x1] (wX12 o cB cI cJ cZ s_o) (some (.int r)) (wX12 o cB cI cJ cZ s_o) := by
  refine met_of (by decide) (Nat.le_of_ble_eq_true rfl) ?_
  intro p e s m args below meth c A cx hr hA
  show gW p l e rm_X12_byteAt s m args below meth c D A 2 _ 0 0 _ [(0, .ref (o 0)), (1, .int x1)] 0 []
  rw [F_X12_byteAt] at hf
  refine g_iln cx 1 dX12_byteAt_0 rfl ?_
  refine g_aln cx 0 dX12_byteAt_1 rfl ?_
  refine mg_typed cx dX12_byteAt_2 ?_
  refine g_ic_ge (tgt := 17) cx hf dX12_byteAt_5 rfl (fun hf => ?_) (fun hf => ?_)
  · refine g_ic cx dX12_byteAt_17 k_icm1 ?_
    exact g_iret (ovf := fun (r : Int32) => (some (.int r))) (wf := fun (r : Int32) => (wX12 o cB cI cJ cZ s_o)) cx hA hr hf rfl rfl dX12_byteAt_18
  · refine g_aln cx 0 dX12_byteAt_8 rfl ?_
    refine mg_text cx dX12_byteAt_9 ?_
    refine g_iln cx 1 dX12_byteAt_12 rfl ?_
    refine ml_text cx hf dX12_byteAt_13 (fun e_1 hf => ?_)
    refine g_goto (tgt := 18) cx dX12_byteAt_14 rfl ?_
    exact g_iret (ovf := fun (r : Int32) => (some (.int r))) (wf := fun (r : Int32) => (wX12 o cB cI cJ cZ s_o)) cx hA hr hf rfl rfl dX12_byteAt_18
def tX12_advances_16 : List Nat := 177 :: []
def tX12_advances_15 : List Nat := 91 :: 42 :: 27 :: 16 :: 59 :: 160 :: 0 :: 7 :: 6 :: 167 :: 0 :: 4 :: 7 :: 181 :: 0 :: 101 :: tX12_advances_16
def tX12_advances_14 : List Nat := 5 :: 181 :: 0 :: 101 :: 167 :: 0 :: 28 :: 42 :: 89 :: 180 :: 0 :: 91 :: 4 :: 96 :: 181 :: 0 :: tX12_advances_15
def tX12_advances_13 : List Nat := 180 :: 0 :: 91 :: 42 :: 180 :: 0 :: 98 :: 100 :: 4 :: 164 :: 0 :: 7 :: 7 :: 167 :: 0 :: 4 :: tX12_advances_14
def tX12_advances_12 : List Nat := 42 :: 180 :: 0 :: 104 :: 16 :: 99 :: 163 :: 0 :: 22 :: 27 :: 16 :: 48 :: 160 :: 0 :: 20 :: 42 :: tX12_advances_13
def tX12_advances_11 : List Nat := 0 :: 104 :: 42 :: 89 :: 180 :: 0 :: 91 :: 4 :: 96 :: 181 :: 0 :: 91 :: 167 :: 255 :: 189 :: 42 :: tX12_advances_12
def tX12_advances_10 : List Nat := 0 :: 104 :: 104 :: 42 :: 42 :: 180 :: 0 :: 91 :: 182 :: 0 :: 94 :: 96 :: 16 :: 48 :: 100 :: 181 :: tX12_advances_11
def tX12_advances_9 : List Nat := 16 :: 99 :: 164 :: 0 :: 10 :: 42 :: 180 :: 0 :: 104 :: 167 :: 0 :: 22 :: 16 :: 10 :: 42 :: 180 :: tX12_advances_10
def tX12_advances_8 : List Nat := 94 :: 16 :: 48 :: 16 :: 57 :: 184 :: 0 :: 82 :: 153 :: 0 :: 55 :: 42 :: 42 :: 180 :: 0 :: 104 :: tX12_advances_9
def tX12_advances_7 : List Nat := 82 :: 153 :: 0 :: 118 :: 42 :: 3 :: 181 :: 0 :: 104 :: 42 :: 42 :: 180 :: 0 :: 91 :: 182 :: 0 :: tX12_advances_8
def tX12_advances_6 : List Nat := 228 :: 42 :: 4 :: 181 :: 0 :: 101 :: 167 :: 0 :: 154 :: 27 :: 16 :: 48 :: 16 :: 57 :: 184 :: 0 :: tX12_advances_7
def tX12_advances_5 : List Nat := 82 :: 153 :: 0 :: 16 :: 42 :: 89 :: 180 :: 0 :: 91 :: 4 :: 96 :: 181 :: 0 :: 91 :: 167 :: 255 :: tX12_advances_6
def tX12_advances_4 : List Nat := 0 :: 42 :: 42 :: 42 :: 180 :: 0 :: 91 :: 182 :: 0 :: 94 :: 16 :: 97 :: 16 :: 122 :: 184 :: 0 :: tX12_advances_5
def tX12_advances_3 : List Nat := 3 :: 181 :: 0 :: 101 :: 167 :: 0 :: 204 :: 27 :: 16 :: 97 :: 16 :: 122 :: 184 :: 0 :: 82 :: 153 :: tX12_advances_4
def tX12_advances_2 : List Nat := 0 :: 98 :: 42 :: 42 :: 180 :: 0 :: 91 :: 182 :: 0 :: 94 :: 60 :: 27 :: 156 :: 0 :: 11 :: 42 :: tX12_advances_3
def tX12_advances_1 : List Nat := 0 :: 91 :: 4 :: 96 :: 181 :: 0 :: 91 :: 167 :: 255 :: 233 :: 42 :: 42 :: 180 :: 0 :: 91 :: 181 :: tX12_advances_2
def tX12_advances_0 : List Nat := 42 :: 42 :: 180 :: 0 :: 91 :: 182 :: 0 :: 94 :: 16 :: 32 :: 160 :: 0 :: 16 :: 42 :: 89 :: 180 :: tX12_advances_1
theorem tX12_advancesf_0 : (cX12_advances.data.toList.map UInt8.toNat).drop 0 = tX12_advances_0 := by decide +kernel
theorem tX12_advancesf_1 : (cX12_advances.data.toList.map UInt8.toNat).drop 16 = tX12_advances_1 := fd_next (k := 0) tX12_advancesf_0 rfl
theorem tX12_advancesf_2 : (cX12_advances.data.toList.map UInt8.toNat).drop 32 = tX12_advances_2 := fd_next (k := 16) tX12_advancesf_1 rfl
theorem tX12_advancesf_3 : (cX12_advances.data.toList.map UInt8.toNat).drop 48 = tX12_advances_3 := fd_next (k := 32) tX12_advancesf_2 rfl
theorem tX12_advancesf_4 : (cX12_advances.data.toList.map UInt8.toNat).drop 64 = tX12_advances_4 := fd_next (k := 48) tX12_advancesf_3 rfl
theorem tX12_advancesf_5 : (cX12_advances.data.toList.map UInt8.toNat).drop 80 = tX12_advances_5 := fd_next (k := 64) tX12_advancesf_4 rfl
theorem tX12_advancesf_6 : (cX12_advances.data.toList.map UInt8.toNat).drop 96 = tX12_advances_6 := fd_next (k := 80) tX12_advancesf_5 rfl
theorem tX12_advancesf_7 : (cX12_advances.data.toList.map UInt8.toNat).drop 112 = tX12_advances_7 := fd_next (k := 96) tX12_advancesf_6 rfl
theorem tX12_advancesf_8 : (cX12_advances.data.toList.map UInt8.toNat).drop 128 = tX12_advances_8 := fd_next (k := 112) tX12_advancesf_7 rfl
theorem tX12_advancesf_9 : (cX12_advances.data.toList.map UInt8.toNat).drop 144 = tX12_advances_9 := fd_next (k := 128) tX12_advancesf_8 rfl
theorem tX12_advancesf_10 : (cX12_advances.data.toList.map UInt8.toNat).drop 160 = tX12_advances_10 := fd_next (k := 144) tX12_advancesf_9 rfl
theorem tX12_advancesf_11 : (cX12_advances.data.toList.map UInt8.toNat).drop 176 = tX12_advances_11 := fd_next (k := 160) tX12_advancesf_10 rfl
theorem tX12_advancesf_12 : (cX12_advances.data.toList.map UInt8.toNat).drop 192 = tX12_advances_12 := fd_next (k := 176) tX12_advancesf_11 rfl
theorem tX12_advancesf_13 : (cX12_advances.data.toList.map UInt8.toNat).drop 208 = tX12_advances_13 := fd_next (k := 192) tX12_advancesf_12 rfl
theorem tX12_advancesf_14 : (cX12_advances.data.toList.map UInt8.toNat).drop 224 = tX12_advances_14 := fd_next (k := 208) tX12_advancesf_13 rfl
theorem tX12_advancesf_15 : (cX12_advances.data.toList.map UInt8.toNat).drop 240 = tX12_advances_15 := fd_next (k := 224) tX12_advancesf_14 rfl
theorem tX12_advancesf_16 : (cX12_advances.data.toList.map UInt8.toNat).drop 256 = tX12_advances_16 := fd_next (k := 240) tX12_advancesf_15 rfl
theorem dX12_advances_0 : decode cX12_advances 0 = .ok (.aload_n 0, 1) := dk_42 (fdB_of (k := 0) tX12_advancesf_0 0 42 rfl)
theorem dX12_advances_1 : decode cX12_advances 1 = .ok (.aload_n 0, 1) := dk_42 (fdB_of (k := 0) tX12_advancesf_0 1 42 rfl)
theorem dX12_advances_2 : decode cX12_advances 2 = .ok (.getfield 91, 3) := dk_180 (fdB_of (k := 0) tX12_advancesf_0 2 180 rfl) (fdB_of (k := 0) tX12_advancesf_0 3 0 rfl) (fdB_of (k := 0) tX12_advancesf_0 4 91 rfl)
theorem dX12_advances_5 : decode cX12_advances 5 = .ok (.invokevirtual 94, 3) := dk_182 (fdB_of (k := 0) tX12_advancesf_0 5 182 rfl) (fdB_of (k := 0) tX12_advancesf_0 6 0 rfl) (fdB_of (k := 0) tX12_advancesf_0 7 94 rfl)
theorem dX12_advances_8 : decode cX12_advances 8 = .ok (.bipush 32, 2) := dk_16 (fdB_of (k := 0) tX12_advancesf_0 8 16 rfl) (fdB_of (k := 0) tX12_advancesf_0 9 32 rfl) (by decide +kernel)
theorem dX12_advances_10 : decode cX12_advances 10 = .ok (.if_icmp .ne 16, 3) := dk_160 (fdB_of (k := 0) tX12_advancesf_0 10 160 rfl) (fdB_of (k := 0) tX12_advancesf_0 11 0 rfl) (fdB_of (k := 0) tX12_advancesf_0 12 16 rfl) (by decide +kernel)
theorem dX12_advances_13 : decode cX12_advances 13 = .ok (.aload_n 0, 1) := dk_42 (fdB_of (k := 0) tX12_advancesf_0 13 42 rfl)
theorem dX12_advances_14 : decode cX12_advances 14 = .ok (.dup, 1) := dk_89 (fdB_of (k := 0) tX12_advancesf_0 14 89 rfl)
theorem dX12_advances_15 : decode cX12_advances 15 = .ok (.getfield 91, 3) := dk_180 (fdB_of (k := 0) tX12_advancesf_0 15 180 rfl) (fdB_of (k := 16) tX12_advancesf_1 0 0 rfl) (fdB_of (k := 16) tX12_advancesf_1 1 91 rfl)
theorem dX12_advances_18 : decode cX12_advances 18 = .ok (.iconst 1, 1) := dk_4 (fdB_of (k := 16) tX12_advancesf_1 2 4 rfl)
theorem dX12_advances_19 : decode cX12_advances 19 = .ok (.iadd, 1) := dk_96 (fdB_of (k := 16) tX12_advancesf_1 3 96 rfl)
theorem dX12_advances_20 : decode cX12_advances 20 = .ok (.putfield 91, 3) := dk_181 (fdB_of (k := 16) tX12_advancesf_1 4 181 rfl) (fdB_of (k := 16) tX12_advancesf_1 5 0 rfl) (fdB_of (k := 16) tX12_advancesf_1 6 91 rfl)
theorem dX12_advances_23 : decode cX12_advances 23 = .ok (.goto (-23), 3) := dk_167 (fdB_of (k := 16) tX12_advancesf_1 7 167 rfl) (fdB_of (k := 16) tX12_advancesf_1 8 255 rfl) (fdB_of (k := 16) tX12_advancesf_1 9 233 rfl) (by decide +kernel)
theorem dX12_advances_26 : decode cX12_advances 26 = .ok (.aload_n 0, 1) := dk_42 (fdB_of (k := 16) tX12_advancesf_1 10 42 rfl)
theorem dX12_advances_27 : decode cX12_advances 27 = .ok (.aload_n 0, 1) := dk_42 (fdB_of (k := 16) tX12_advancesf_1 11 42 rfl)
theorem dX12_advances_28 : decode cX12_advances 28 = .ok (.getfield 91, 3) := dk_180 (fdB_of (k := 16) tX12_advancesf_1 12 180 rfl) (fdB_of (k := 16) tX12_advancesf_1 13 0 rfl) (fdB_of (k := 16) tX12_advancesf_1 14 91 rfl)
theorem dX12_advances_31 : decode cX12_advances 31 = .ok (.putfield 98, 3) := dk_181 (fdB_of (k := 16) tX12_advancesf_1 15 181 rfl) (fdB_of (k := 32) tX12_advancesf_2 0 0 rfl) (fdB_of (k := 32) tX12_advancesf_2 1 98 rfl)
theorem dX12_advances_34 : decode cX12_advances 34 = .ok (.aload_n 0, 1) := dk_42 (fdB_of (k := 32) tX12_advancesf_2 2 42 rfl)
theorem dX12_advances_35 : decode cX12_advances 35 = .ok (.aload_n 0, 1) := dk_42 (fdB_of (k := 32) tX12_advancesf_2 3 42 rfl)
theorem dX12_advances_36 : decode cX12_advances 36 = .ok (.getfield 91, 3) := dk_180 (fdB_of (k := 32) tX12_advancesf_2 4 180 rfl) (fdB_of (k := 32) tX12_advancesf_2 5 0 rfl) (fdB_of (k := 32) tX12_advancesf_2 6 91 rfl)
theorem dX12_advances_39 : decode cX12_advances 39 = .ok (.invokevirtual 94, 3) := dk_182 (fdB_of (k := 32) tX12_advancesf_2 7 182 rfl) (fdB_of (k := 32) tX12_advancesf_2 8 0 rfl) (fdB_of (k := 32) tX12_advancesf_2 9 94 rfl)
theorem dX12_advances_42 : decode cX12_advances 42 = .ok (.istore_n 1, 1) := dk_60 (fdB_of (k := 32) tX12_advancesf_2 10 60 rfl)
theorem dX12_advances_43 : decode cX12_advances 43 = .ok (.iload_n 1, 1) := dk_27 (fdB_of (k := 32) tX12_advancesf_2 11 27 rfl)
theorem dX12_advances_44 : decode cX12_advances 44 = .ok (.ifCond .ge 11, 3) := dk_156 (fdB_of (k := 32) tX12_advancesf_2 12 156 rfl) (fdB_of (k := 32) tX12_advancesf_2 13 0 rfl) (fdB_of (k := 32) tX12_advancesf_2 14 11 rfl) (by decide +kernel)
theorem dX12_advances_47 : decode cX12_advances 47 = .ok (.aload_n 0, 1) := dk_42 (fdB_of (k := 32) tX12_advancesf_2 15 42 rfl)
theorem dX12_advances_48 : decode cX12_advances 48 = .ok (.iconst 0, 1) := dk_3 (fdB_of (k := 48) tX12_advancesf_3 0 3 rfl)
theorem dX12_advances_49 : decode cX12_advances 49 = .ok (.putfield 101, 3) := dk_181 (fdB_of (k := 48) tX12_advancesf_3 1 181 rfl) (fdB_of (k := 48) tX12_advancesf_3 2 0 rfl) (fdB_of (k := 48) tX12_advancesf_3 3 101 rfl)
theorem dX12_advances_52 : decode cX12_advances 52 = .ok (.goto 204, 3) := dk_167 (fdB_of (k := 48) tX12_advancesf_3 4 167 rfl) (fdB_of (k := 48) tX12_advancesf_3 5 0 rfl) (fdB_of (k := 48) tX12_advancesf_3 6 204 rfl) (by decide +kernel)
theorem dX12_advances_55 : decode cX12_advances 55 = .ok (.iload_n 1, 1) := dk_27 (fdB_of (k := 48) tX12_advancesf_3 7 27 rfl)
theorem dX12_advances_56 : decode cX12_advances 56 = .ok (.bipush 97, 2) := dk_16 (fdB_of (k := 48) tX12_advancesf_3 8 16 rfl) (fdB_of (k := 48) tX12_advancesf_3 9 97 rfl) (by decide +kernel)
theorem dX12_advances_58 : decode cX12_advances 58 = .ok (.bipush 122, 2) := dk_16 (fdB_of (k := 48) tX12_advancesf_3 10 16 rfl) (fdB_of (k := 48) tX12_advancesf_3 11 122 rfl) (by decide +kernel)
theorem dX12_advances_60 : decode cX12_advances 60 = .ok (.invokestatic 82, 3) := dk_184 (fdB_of (k := 48) tX12_advancesf_3 12 184 rfl) (fdB_of (k := 48) tX12_advancesf_3 13 0 rfl) (fdB_of (k := 48) tX12_advancesf_3 14 82 rfl)
theorem dX12_advances_63 : decode cX12_advances 63 = .ok (.ifCond .eq 42, 3) := dk_153 (fdB_of (k := 48) tX12_advancesf_3 15 153 rfl) (fdB_of (k := 64) tX12_advancesf_4 0 0 rfl) (fdB_of (k := 64) tX12_advancesf_4 1 42 rfl) (by decide +kernel)
theorem dX12_advances_66 : decode cX12_advances 66 = .ok (.aload_n 0, 1) := dk_42 (fdB_of (k := 64) tX12_advancesf_4 2 42 rfl)
theorem dX12_advances_67 : decode cX12_advances 67 = .ok (.aload_n 0, 1) := dk_42 (fdB_of (k := 64) tX12_advancesf_4 3 42 rfl)
theorem dX12_advances_68 : decode cX12_advances 68 = .ok (.getfield 91, 3) := dk_180 (fdB_of (k := 64) tX12_advancesf_4 4 180 rfl) (fdB_of (k := 64) tX12_advancesf_4 5 0 rfl) (fdB_of (k := 64) tX12_advancesf_4 6 91 rfl)
theorem dX12_advances_71 : decode cX12_advances 71 = .ok (.invokevirtual 94, 3) := dk_182 (fdB_of (k := 64) tX12_advancesf_4 7 182 rfl) (fdB_of (k := 64) tX12_advancesf_4 8 0 rfl) (fdB_of (k := 64) tX12_advancesf_4 9 94 rfl)
theorem dX12_advances_74 : decode cX12_advances 74 = .ok (.bipush 97, 2) := dk_16 (fdB_of (k := 64) tX12_advancesf_4 10 16 rfl) (fdB_of (k := 64) tX12_advancesf_4 11 97 rfl) (by decide +kernel)
theorem dX12_advances_76 : decode cX12_advances 76 = .ok (.bipush 122, 2) := dk_16 (fdB_of (k := 64) tX12_advancesf_4 12 16 rfl) (fdB_of (k := 64) tX12_advancesf_4 13 122 rfl) (by decide +kernel)
theorem dX12_advances_78 : decode cX12_advances 78 = .ok (.invokestatic 82, 3) := dk_184 (fdB_of (k := 64) tX12_advancesf_4 14 184 rfl) (fdB_of (k := 64) tX12_advancesf_4 15 0 rfl) (fdB_of (k := 80) tX12_advancesf_5 0 82 rfl)
theorem dX12_advances_81 : decode cX12_advances 81 = .ok (.ifCond .eq 16, 3) := dk_153 (fdB_of (k := 80) tX12_advancesf_5 1 153 rfl) (fdB_of (k := 80) tX12_advancesf_5 2 0 rfl) (fdB_of (k := 80) tX12_advancesf_5 3 16 rfl) (by decide +kernel)
theorem dX12_advances_84 : decode cX12_advances 84 = .ok (.aload_n 0, 1) := dk_42 (fdB_of (k := 80) tX12_advancesf_5 4 42 rfl)
theorem dX12_advances_85 : decode cX12_advances 85 = .ok (.dup, 1) := dk_89 (fdB_of (k := 80) tX12_advancesf_5 5 89 rfl)
theorem dX12_advances_86 : decode cX12_advances 86 = .ok (.getfield 91, 3) := dk_180 (fdB_of (k := 80) tX12_advancesf_5 6 180 rfl) (fdB_of (k := 80) tX12_advancesf_5 7 0 rfl) (fdB_of (k := 80) tX12_advancesf_5 8 91 rfl)
theorem dX12_advances_89 : decode cX12_advances 89 = .ok (.iconst 1, 1) := dk_4 (fdB_of (k := 80) tX12_advancesf_5 9 4 rfl)
theorem dX12_advances_90 : decode cX12_advances 90 = .ok (.iadd, 1) := dk_96 (fdB_of (k := 80) tX12_advancesf_5 10 96 rfl)
theorem dX12_advances_91 : decode cX12_advances 91 = .ok (.putfield 91, 3) := dk_181 (fdB_of (k := 80) tX12_advancesf_5 11 181 rfl) (fdB_of (k := 80) tX12_advancesf_5 12 0 rfl) (fdB_of (k := 80) tX12_advancesf_5 13 91 rfl)
theorem dX12_advances_94 : decode cX12_advances 94 = .ok (.goto (-28), 3) := dk_167 (fdB_of (k := 80) tX12_advancesf_5 14 167 rfl) (fdB_of (k := 80) tX12_advancesf_5 15 255 rfl) (fdB_of (k := 96) tX12_advancesf_6 0 228 rfl) (by decide +kernel)
theorem dX12_advances_97 : decode cX12_advances 97 = .ok (.aload_n 0, 1) := dk_42 (fdB_of (k := 96) tX12_advancesf_6 1 42 rfl)
theorem dX12_advances_98 : decode cX12_advances 98 = .ok (.iconst 1, 1) := dk_4 (fdB_of (k := 96) tX12_advancesf_6 2 4 rfl)
theorem dX12_advances_99 : decode cX12_advances 99 = .ok (.putfield 101, 3) := dk_181 (fdB_of (k := 96) tX12_advancesf_6 3 181 rfl) (fdB_of (k := 96) tX12_advancesf_6 4 0 rfl) (fdB_of (k := 96) tX12_advancesf_6 5 101 rfl)
theorem dX12_advances_102 : decode cX12_advances 102 = .ok (.goto 154, 3) := dk_167 (fdB_of (k := 96) tX12_advancesf_6 6 167 rfl) (fdB_of (k := 96) tX12_advancesf_6 7 0 rfl) (fdB_of (k := 96) tX12_advancesf_6 8 154 rfl) (by decide +kernel)
theorem dX12_advances_105 : decode cX12_advances 105 = .ok (.iload_n 1, 1) := dk_27 (fdB_of (k := 96) tX12_advancesf_6 9 27 rfl)
theorem dX12_advances_106 : decode cX12_advances 106 = .ok (.bipush 48, 2) := dk_16 (fdB_of (k := 96) tX12_advancesf_6 10 16 rfl) (fdB_of (k := 96) tX12_advancesf_6 11 48 rfl) (by decide +kernel)
theorem dX12_advances_108 : decode cX12_advances 108 = .ok (.bipush 57, 2) := dk_16 (fdB_of (k := 96) tX12_advancesf_6 12 16 rfl) (fdB_of (k := 96) tX12_advancesf_6 13 57 rfl) (by decide +kernel)
theorem dX12_advances_110 : decode cX12_advances 110 = .ok (.invokestatic 82, 3) := dk_184 (fdB_of (k := 96) tX12_advancesf_6 14 184 rfl) (fdB_of (k := 96) tX12_advancesf_6 15 0 rfl) (fdB_of (k := 112) tX12_advancesf_7 0 82 rfl)
theorem dX12_advances_113 : decode cX12_advances 113 = .ok (.ifCond .eq 118, 3) := dk_153 (fdB_of (k := 112) tX12_advancesf_7 1 153 rfl) (fdB_of (k := 112) tX12_advancesf_7 2 0 rfl) (fdB_of (k := 112) tX12_advancesf_7 3 118 rfl) (by decide +kernel)
theorem dX12_advances_116 : decode cX12_advances 116 = .ok (.aload_n 0, 1) := dk_42 (fdB_of (k := 112) tX12_advancesf_7 4 42 rfl)
theorem dX12_advances_117 : decode cX12_advances 117 = .ok (.iconst 0, 1) := dk_3 (fdB_of (k := 112) tX12_advancesf_7 5 3 rfl)
theorem dX12_advances_118 : decode cX12_advances 118 = .ok (.putfield 104, 3) := dk_181 (fdB_of (k := 112) tX12_advancesf_7 6 181 rfl) (fdB_of (k := 112) tX12_advancesf_7 7 0 rfl) (fdB_of (k := 112) tX12_advancesf_7 8 104 rfl)
theorem dX12_advances_121 : decode cX12_advances 121 = .ok (.aload_n 0, 1) := dk_42 (fdB_of (k := 112) tX12_advancesf_7 9 42 rfl)
theorem dX12_advances_122 : decode cX12_advances 122 = .ok (.aload_n 0, 1) := dk_42 (fdB_of (k := 112) tX12_advancesf_7 10 42 rfl)
theorem dX12_advances_123 : decode cX12_advances 123 = .ok (.getfield 91, 3) := dk_180 (fdB_of (k := 112) tX12_advancesf_7 11 180 rfl) (fdB_of (k := 112) tX12_advancesf_7 12 0 rfl) (fdB_of (k := 112) tX12_advancesf_7 13 91 rfl)
theorem dX12_advances_126 : decode cX12_advances 126 = .ok (.invokevirtual 94, 3) := dk_182 (fdB_of (k := 112) tX12_advancesf_7 14 182 rfl) (fdB_of (k := 112) tX12_advancesf_7 15 0 rfl) (fdB_of (k := 128) tX12_advancesf_8 0 94 rfl)
theorem dX12_advances_129 : decode cX12_advances 129 = .ok (.bipush 48, 2) := dk_16 (fdB_of (k := 128) tX12_advancesf_8 1 16 rfl) (fdB_of (k := 128) tX12_advancesf_8 2 48 rfl) (by decide +kernel)
theorem dX12_advances_131 : decode cX12_advances 131 = .ok (.bipush 57, 2) := dk_16 (fdB_of (k := 128) tX12_advancesf_8 3 16 rfl) (fdB_of (k := 128) tX12_advancesf_8 4 57 rfl) (by decide +kernel)
theorem dX12_advances_133 : decode cX12_advances 133 = .ok (.invokestatic 82, 3) := dk_184 (fdB_of (k := 128) tX12_advancesf_8 5 184 rfl) (fdB_of (k := 128) tX12_advancesf_8 6 0 rfl) (fdB_of (k := 128) tX12_advancesf_8 7 82 rfl)
theorem dX12_advances_136 : decode cX12_advances 136 = .ok (.ifCond .eq 55, 3) := dk_153 (fdB_of (k := 128) tX12_advancesf_8 8 153 rfl) (fdB_of (k := 128) tX12_advancesf_8 9 0 rfl) (fdB_of (k := 128) tX12_advancesf_8 10 55 rfl) (by decide +kernel)
theorem dX12_advances_139 : decode cX12_advances 139 = .ok (.aload_n 0, 1) := dk_42 (fdB_of (k := 128) tX12_advancesf_8 11 42 rfl)
theorem dX12_advances_140 : decode cX12_advances 140 = .ok (.aload_n 0, 1) := dk_42 (fdB_of (k := 128) tX12_advancesf_8 12 42 rfl)
theorem dX12_advances_141 : decode cX12_advances 141 = .ok (.getfield 104, 3) := dk_180 (fdB_of (k := 128) tX12_advancesf_8 13 180 rfl) (fdB_of (k := 128) tX12_advancesf_8 14 0 rfl) (fdB_of (k := 128) tX12_advancesf_8 15 104 rfl)
theorem dX12_advances_144 : decode cX12_advances 144 = .ok (.bipush 99, 2) := dk_16 (fdB_of (k := 144) tX12_advancesf_9 0 16 rfl) (fdB_of (k := 144) tX12_advancesf_9 1 99 rfl) (by decide +kernel)
theorem dX12_advances_146 : decode cX12_advances 146 = .ok (.if_icmp .le 10, 3) := dk_164 (fdB_of (k := 144) tX12_advancesf_9 2 164 rfl) (fdB_of (k := 144) tX12_advancesf_9 3 0 rfl) (fdB_of (k := 144) tX12_advancesf_9 4 10 rfl) (by decide +kernel)
theorem dX12_advances_149 : decode cX12_advances 149 = .ok (.aload_n 0, 1) := dk_42 (fdB_of (k := 144) tX12_advancesf_9 5 42 rfl)
theorem dX12_advances_150 : decode cX12_advances 150 = .ok (.getfield 104, 3) := dk_180 (fdB_of (k := 144) tX12_advancesf_9 6 180 rfl) (fdB_of (k := 144) tX12_advancesf_9 7 0 rfl) (fdB_of (k := 144) tX12_advancesf_9 8 104 rfl)
theorem dX12_advances_153 : decode cX12_advances 153 = .ok (.goto 22, 3) := dk_167 (fdB_of (k := 144) tX12_advancesf_9 9 167 rfl) (fdB_of (k := 144) tX12_advancesf_9 10 0 rfl) (fdB_of (k := 144) tX12_advancesf_9 11 22 rfl) (by decide +kernel)
theorem dX12_advances_156 : decode cX12_advances 156 = .ok (.bipush 10, 2) := dk_16 (fdB_of (k := 144) tX12_advancesf_9 12 16 rfl) (fdB_of (k := 144) tX12_advancesf_9 13 10 rfl) (by decide +kernel)
theorem dX12_advances_158 : decode cX12_advances 158 = .ok (.aload_n 0, 1) := dk_42 (fdB_of (k := 144) tX12_advancesf_9 14 42 rfl)
theorem dX12_advances_159 : decode cX12_advances 159 = .ok (.getfield 104, 3) := dk_180 (fdB_of (k := 144) tX12_advancesf_9 15 180 rfl) (fdB_of (k := 160) tX12_advancesf_10 0 0 rfl) (fdB_of (k := 160) tX12_advancesf_10 1 104 rfl)
theorem dX12_advances_162 : decode cX12_advances 162 = .ok (.imul, 1) := dk_104 (fdB_of (k := 160) tX12_advancesf_10 2 104 rfl)
theorem dX12_advances_163 : decode cX12_advances 163 = .ok (.aload_n 0, 1) := dk_42 (fdB_of (k := 160) tX12_advancesf_10 3 42 rfl)
theorem dX12_advances_164 : decode cX12_advances 164 = .ok (.aload_n 0, 1) := dk_42 (fdB_of (k := 160) tX12_advancesf_10 4 42 rfl)
theorem dX12_advances_165 : decode cX12_advances 165 = .ok (.getfield 91, 3) := dk_180 (fdB_of (k := 160) tX12_advancesf_10 5 180 rfl) (fdB_of (k := 160) tX12_advancesf_10 6 0 rfl) (fdB_of (k := 160) tX12_advancesf_10 7 91 rfl)
theorem dX12_advances_168 : decode cX12_advances 168 = .ok (.invokevirtual 94, 3) := dk_182 (fdB_of (k := 160) tX12_advancesf_10 8 182 rfl) (fdB_of (k := 160) tX12_advancesf_10 9 0 rfl) (fdB_of (k := 160) tX12_advancesf_10 10 94 rfl)
theorem dX12_advances_171 : decode cX12_advances 171 = .ok (.iadd, 1) := dk_96 (fdB_of (k := 160) tX12_advancesf_10 11 96 rfl)
theorem dX12_advances_172 : decode cX12_advances 172 = .ok (.bipush 48, 2) := dk_16 (fdB_of (k := 160) tX12_advancesf_10 12 16 rfl) (fdB_of (k := 160) tX12_advancesf_10 13 48 rfl) (by decide +kernel)
theorem dX12_advances_174 : decode cX12_advances 174 = .ok (.isub, 1) := dk_100 (fdB_of (k := 160) tX12_advancesf_10 14 100 rfl)
theorem dX12_advances_175 : decode cX12_advances 175 = .ok (.putfield 104, 3) := dk_181 (fdB_of (k := 160) tX12_advancesf_10 15 181 rfl) (fdB_of (k := 176) tX12_advancesf_11 0 0 rfl) (fdB_of (k := 176) tX12_advancesf_11 1 104 rfl)
theorem dX12_advances_178 : decode cX12_advances 178 = .ok (.aload_n 0, 1) := dk_42 (fdB_of (k := 176) tX12_advancesf_11 2 42 rfl)
theorem dX12_advances_179 : decode cX12_advances 179 = .ok (.dup, 1) := dk_89 (fdB_of (k := 176) tX12_advancesf_11 3 89 rfl)
theorem dX12_advances_180 : decode cX12_advances 180 = .ok (.getfield 91, 3) := dk_180 (fdB_of (k := 176) tX12_advancesf_11 4 180 rfl) (fdB_of (k := 176) tX12_advancesf_11 5 0 rfl) (fdB_of (k := 176) tX12_advancesf_11 6 91 rfl)
theorem dX12_advances_183 : decode cX12_advances 183 = .ok (.iconst 1, 1) := dk_4 (fdB_of (k := 176) tX12_advancesf_11 7 4 rfl)
theorem dX12_advances_184 : decode cX12_advances 184 = .ok (.iadd, 1) := dk_96 (fdB_of (k := 176) tX12_advancesf_11 8 96 rfl)
theorem dX12_advances_185 : decode cX12_advances 185 = .ok (.putfield 91, 3) := dk_181 (fdB_of (k := 176) tX12_advancesf_11 9 181 rfl) (fdB_of (k := 176) tX12_advancesf_11 10 0 rfl) (fdB_of (k := 176) tX12_advancesf_11 11 91 rfl)
theorem dX12_advances_188 : decode cX12_advances 188 = .ok (.goto (-67), 3) := dk_167 (fdB_of (k := 176) tX12_advancesf_11 12 167 rfl) (fdB_of (k := 176) tX12_advancesf_11 13 255 rfl) (fdB_of (k := 176) tX12_advancesf_11 14 189 rfl) (by decide +kernel)
theorem dX12_advances_191 : decode cX12_advances 191 = .ok (.aload_n 0, 1) := dk_42 (fdB_of (k := 176) tX12_advancesf_11 15 42 rfl)
theorem dX12_advances_192 : decode cX12_advances 192 = .ok (.aload_n 0, 1) := dk_42 (fdB_of (k := 192) tX12_advancesf_12 0 42 rfl)
theorem dX12_advances_193 : decode cX12_advances 193 = .ok (.getfield 104, 3) := dk_180 (fdB_of (k := 192) tX12_advancesf_12 1 180 rfl) (fdB_of (k := 192) tX12_advancesf_12 2 0 rfl) (fdB_of (k := 192) tX12_advancesf_12 3 104 rfl)
theorem dX12_advances_196 : decode cX12_advances 196 = .ok (.bipush 99, 2) := dk_16 (fdB_of (k := 192) tX12_advancesf_12 4 16 rfl) (fdB_of (k := 192) tX12_advancesf_12 5 99 rfl) (by decide +kernel)
theorem dX12_advances_198 : decode cX12_advances 198 = .ok (.if_icmp .gt 22, 3) := dk_163 (fdB_of (k := 192) tX12_advancesf_12 6 163 rfl) (fdB_of (k := 192) tX12_advancesf_12 7 0 rfl) (fdB_of (k := 192) tX12_advancesf_12 8 22 rfl) (by decide +kernel)
theorem dX12_advances_201 : decode cX12_advances 201 = .ok (.iload_n 1, 1) := dk_27 (fdB_of (k := 192) tX12_advancesf_12 9 27 rfl)
theorem dX12_advances_202 : decode cX12_advances 202 = .ok (.bipush 48, 2) := dk_16 (fdB_of (k := 192) tX12_advancesf_12 10 16 rfl) (fdB_of (k := 192) tX12_advancesf_12 11 48 rfl) (by decide +kernel)
theorem dX12_advances_204 : decode cX12_advances 204 = .ok (.if_icmp .ne 20, 3) := dk_160 (fdB_of (k := 192) tX12_advancesf_12 12 160 rfl) (fdB_of (k := 192) tX12_advancesf_12 13 0 rfl) (fdB_of (k := 192) tX12_advancesf_12 14 20 rfl) (by decide +kernel)
theorem dX12_advances_207 : decode cX12_advances 207 = .ok (.aload_n 0, 1) := dk_42 (fdB_of (k := 192) tX12_advancesf_12 15 42 rfl)
theorem dX12_advances_208 : decode cX12_advances 208 = .ok (.getfield 91, 3) := dk_180 (fdB_of (k := 208) tX12_advancesf_13 0 180 rfl) (fdB_of (k := 208) tX12_advancesf_13 1 0 rfl) (fdB_of (k := 208) tX12_advancesf_13 2 91 rfl)
theorem dX12_advances_211 : decode cX12_advances 211 = .ok (.aload_n 0, 1) := dk_42 (fdB_of (k := 208) tX12_advancesf_13 3 42 rfl)
theorem dX12_advances_212 : decode cX12_advances 212 = .ok (.getfield 98, 3) := dk_180 (fdB_of (k := 208) tX12_advancesf_13 4 180 rfl) (fdB_of (k := 208) tX12_advancesf_13 5 0 rfl) (fdB_of (k := 208) tX12_advancesf_13 6 98 rfl)
theorem dX12_advances_215 : decode cX12_advances 215 = .ok (.isub, 1) := dk_100 (fdB_of (k := 208) tX12_advancesf_13 7 100 rfl)
theorem dX12_advances_216 : decode cX12_advances 216 = .ok (.iconst 1, 1) := dk_4 (fdB_of (k := 208) tX12_advancesf_13 8 4 rfl)
theorem dX12_advances_217 : decode cX12_advances 217 = .ok (.if_icmp .le 7, 3) := dk_164 (fdB_of (k := 208) tX12_advancesf_13 9 164 rfl) (fdB_of (k := 208) tX12_advancesf_13 10 0 rfl) (fdB_of (k := 208) tX12_advancesf_13 11 7 rfl) (by decide +kernel)
theorem dX12_advances_220 : decode cX12_advances 220 = .ok (.iconst 4, 1) := dk_7 (fdB_of (k := 208) tX12_advancesf_13 12 7 rfl)
theorem dX12_advances_221 : decode cX12_advances 221 = .ok (.goto 4, 3) := dk_167 (fdB_of (k := 208) tX12_advancesf_13 13 167 rfl) (fdB_of (k := 208) tX12_advancesf_13 14 0 rfl) (fdB_of (k := 208) tX12_advancesf_13 15 4 rfl) (by decide +kernel)
theorem dX12_advances_224 : decode cX12_advances 224 = .ok (.iconst 2, 1) := dk_5 (fdB_of (k := 224) tX12_advancesf_14 0 5 rfl)
theorem dX12_advances_225 : decode cX12_advances 225 = .ok (.putfield 101, 3) := dk_181 (fdB_of (k := 224) tX12_advancesf_14 1 181 rfl) (fdB_of (k := 224) tX12_advancesf_14 2 0 rfl) (fdB_of (k := 224) tX12_advancesf_14 3 101 rfl)
theorem dX12_advances_228 : decode cX12_advances 228 = .ok (.goto 28, 3) := dk_167 (fdB_of (k := 224) tX12_advancesf_14 4 167 rfl) (fdB_of (k := 224) tX12_advancesf_14 5 0 rfl) (fdB_of (k := 224) tX12_advancesf_14 6 28 rfl) (by decide +kernel)
theorem dX12_advances_231 : decode cX12_advances 231 = .ok (.aload_n 0, 1) := dk_42 (fdB_of (k := 224) tX12_advancesf_14 7 42 rfl)
theorem dX12_advances_232 : decode cX12_advances 232 = .ok (.dup, 1) := dk_89 (fdB_of (k := 224) tX12_advancesf_14 8 89 rfl)
theorem dX12_advances_233 : decode cX12_advances 233 = .ok (.getfield 91, 3) := dk_180 (fdB_of (k := 224) tX12_advancesf_14 9 180 rfl) (fdB_of (k := 224) tX12_advancesf_14 10 0 rfl) (fdB_of (k := 224) tX12_advancesf_14 11 91 rfl)
theorem dX12_advances_236 : decode cX12_advances 236 = .ok (.iconst 1, 1) := dk_4 (fdB_of (k := 224) tX12_advancesf_14 12 4 rfl)
theorem dX12_advances_237 : decode cX12_advances 237 = .ok (.iadd, 1) := dk_96 (fdB_of (k := 224) tX12_advancesf_14 13 96 rfl)
theorem dX12_advances_238 : decode cX12_advances 238 = .ok (.putfield 91, 3) := dk_181 (fdB_of (k := 224) tX12_advancesf_14 14 181 rfl) (fdB_of (k := 224) tX12_advancesf_14 15 0 rfl) (fdB_of (k := 240) tX12_advancesf_15 0 91 rfl)
theorem dX12_advances_241 : decode cX12_advances 241 = .ok (.aload_n 0, 1) := dk_42 (fdB_of (k := 240) tX12_advancesf_15 1 42 rfl)
theorem dX12_advances_242 : decode cX12_advances 242 = .ok (.iload_n 1, 1) := dk_27 (fdB_of (k := 240) tX12_advancesf_15 2 27 rfl)
theorem dX12_advances_243 : decode cX12_advances 243 = .ok (.bipush 59, 2) := dk_16 (fdB_of (k := 240) tX12_advancesf_15 3 16 rfl) (fdB_of (k := 240) tX12_advancesf_15 4 59 rfl) (by decide +kernel)
theorem dX12_advances_245 : decode cX12_advances 245 = .ok (.if_icmp .ne 7, 3) := dk_160 (fdB_of (k := 240) tX12_advancesf_15 5 160 rfl) (fdB_of (k := 240) tX12_advancesf_15 6 0 rfl) (fdB_of (k := 240) tX12_advancesf_15 7 7 rfl) (by decide +kernel)
theorem dX12_advances_248 : decode cX12_advances 248 = .ok (.iconst 3, 1) := dk_6 (fdB_of (k := 240) tX12_advancesf_15 8 6 rfl)
theorem dX12_advances_249 : decode cX12_advances 249 = .ok (.goto 4, 3) := dk_167 (fdB_of (k := 240) tX12_advancesf_15 9 167 rfl) (fdB_of (k := 240) tX12_advancesf_15 10 0 rfl) (fdB_of (k := 240) tX12_advancesf_15 11 4 rfl) (by decide +kernel)
theorem dX12_advances_252 : decode cX12_advances 252 = .ok (.iconst 4, 1) := dk_7 (fdB_of (k := 240) tX12_advancesf_15 12 7 rfl)
theorem dX12_advances_253 : decode cX12_advances 253 = .ok (.putfield 101, 3) := dk_181 (fdB_of (k := 240) tX12_advancesf_15 13 181 rfl) (fdB_of (k := 240) tX12_advancesf_15 14 0 rfl) (fdB_of (k := 240) tX12_advancesf_15 15 101 rfl)
theorem dX12_advances_256 : decode cX12_advances 256 = .ok (.return_, 1) := dk_177 (fdB_of (k := 256) tX12_advancesf_16 0 177 rfl)

theorem q0_28 : Cond.selects RX12 yX12_byteAt yX12_byteAt ∈ TT := tq0 28 rfl rfl
theorem q4_227 : Cond.fieldLink RX12 91 "RhymeLawModel" "next" "I" ∈ TT := tq4 227 rfl rfl
theorem q4_228 : Cond.fieldLink RX12 101 "RhymeLawModel" "token" "I" ∈ TT := tq4 228 rfl rfl
theorem q4_229 : Cond.fieldLink RX12 98 "RhymeLawModel" "place" "I" ∈ TT := tq4 229 rfl rfl
theorem q4_230 : Cond.fieldLink RX12 104 "RhymeLawModel" "value" "I" ∈ TT := tq4 230 rfl rfl
theorem q5_119 : Cond.methodLink RX12 94 yX12_byteAt ∈ TT := tq5 119 rfl rfl
theorem q5_121 : Cond.instanceMethod yX12_byteAt ∈ TT := tq5 121 rfl rfl
theorem q5_122 : Cond.code yX12_byteAt cX12_byteAt 2 (some .int) ∈ TT := tq5 122 rfl rfl
theorem fg_RX12_91 {p : Program} {l : Launch} {e : Env} {R : Room} {s : State} {m : MethodId} {args : Array Value} {below : List Frame} {meth : Method} {c : Code} {D : gG} {tys : List (ClassId × FieldType)} {A : Nat → Prop} {nL : Nat} {Q : State → Prop} {cells slots : Nat} {cc : ByteArray} {ws : va_W} {L : List (Nat × Value)} {pc : Nat} {stk : List Value} (cx : gX p s m args meth c cc nL RX12 D tys A) {a : Nat} {fs : List Value} {v : Value} (q0 : Nat) (he : ws[q0]? = some (a, .inr (10, fs))) (hv : fs[4]? = some v) (hd : decode cc pc = .ok (.getfield 91, 3)) (kk : gW p l e R s m args below meth c D A nL Q cells slots ws L (pc + 3) (v :: stk)) : gW p l e R s m args below meth c D A nL Q cells slots ws L pc (.ref a :: stk) :=
  g_get cx (C := RX12) (T := TX12) (N := 38) inT12 rfl 4 (Nat.le_of_ble_eq_true rfl) q4_227 rfl q0 he hv hd kk
theorem mg_next {p : Program} {l : Launch} {e : Env} {R : Room} {s : State} {m : MethodId} {args : Array Value} {below : List Frame} {meth : Method} {c : Code} {D : gG} {A : Nat → Prop} {nL : Nat} {Q : State → Prop} {cells slots : Nat} {cc : ByteArray} {L : List (Nat × Value)} {pc : Nat} {stk : List Value} {o : Nat → Nat} {cB cI cJ cZ : ClassId} {z : SM} (cx : gX p s m args meth c cc nL RX12 D (tyL cB cI cJ cZ) A) (hd : decode cc pc = .ok (.getfield 91, 3)) (kk : gW p l e R s m args below meth c D A nL Q cells slots (wX12 o cB cI cJ cZ z) L (pc + 3) (.int (mI z 4) :: stk)) : gW p l e R s m args below meth c D A nL Q cells slots (wX12 o cB cI cJ cZ z) L pc (.ref (o 0) :: stk) :=
  fg_RX12_91 cx 0 rfl rfl hd kk
theorem lk_RX12_94 : vlk RX12 94 yX12_byteAt cX12_byteAt 2 (some .int) 1 := ⟨List.forall_mem_cons.mpr ⟨q5_119, List.forall_mem_cons.mpr ⟨q5_121, List.forall_mem_cons.mpr ⟨q0_28, List.forall_mem_cons.mpr ⟨q1_12, fun _ h => absurd h List.not_mem_nil⟩⟩⟩⟩, q5_122, by decide, by decide, by decide +kernel⟩
theorem fp_RX12_101 {p : Program} {l : Launch} {e : Env} {R : Room} {s : State} {m : MethodId} {args : Array Value} {below : List Frame} {meth : Method} {c : Code} {D : gG} {tys : List (ClassId × FieldType)} {A : Nat → Prop} {nL : Nat} {Q : State → Prop} {cells slots : Nat} {cc : ByteArray} {ws : va_W} {L : List (Nat × Value)} {pc : Nat} {stk : List Value} (cx : gX p s m args meth c cc nL RX12 D tys A) {a : Nat} {fs : List Value} {x : Int32} (q0 : Nat) (he : ws[q0]? = some (a, .inr (10, fs))) (hl : 5 < fs.length) {ws' : va_W} (hw : ws.set q0 (a, .inr (10, fs.set 5 (.int x))) = ws') (hd : decode cc pc = .ok (.putfield 101, 3)) (kk : gW p l e R s m args below meth c D A nL Q cells slots ws' L (pc + 3) stk) : gW p l e R s m args below meth c D A nL Q cells slots ws L pc (.int x :: .ref a :: stk) :=
  g_put cx (C := RX12) (T := TX12) (N := 38) (ty0 := tyX12) (ty := .int) inT12 tyX12_ok nmX12 rfl 5 (Nat.le_of_ble_eq_true rfl) q4_228 rfl rfl rfl rfl rfl q0 he hl hw hd kk
theorem mp_token {p : Program} {l : Launch} {e : Env} {R : Room} {s : State} {m : MethodId} {args : Array Value} {below : List Frame} {meth : Method} {c : Code} {D : gG} {A : Nat → Prop} {nL : Nat} {Q : State → Prop} {cells slots : Nat} {cc : ByteArray} {L : List (Nat × Value)} {pc : Nat} {stk : List Value} {β : Type} {r : β} {o : Nat → Nat} {cB cI cJ cZ : ClassId} {z : SM} (cx : gX p s m args meth c cc nL RX12 D (tyL cB cI cJ cZ) A) {x : Int32} {kf : SM → Option β} (hf : nm (mIs z 5 x) kf = some r) (hd : decode cc pc = .ok (.putfield 101, 3)) (kk : ∀ y : SM, kf y = some r → gW p l e R s m args below meth c D A nL Q cells slots (wX12 o cB cI cJ cZ y) L (pc + 3) stk) : gW p l e R s m args below meth c D A nL Q cells slots (wX12 o cB cI cJ cZ z) L pc (.int x :: .ref (o 0) :: stk) :=
  fp_RX12_101 cx 0 rfl (Nat.le_of_ble_eq_true rfl) (ws' := wX12 o cB cI cJ cZ (mIs z 5 x)) rfl hd (kk _ hf)
theorem fp_RX12_91 {p : Program} {l : Launch} {e : Env} {R : Room} {s : State} {m : MethodId} {args : Array Value} {below : List Frame} {meth : Method} {c : Code} {D : gG} {tys : List (ClassId × FieldType)} {A : Nat → Prop} {nL : Nat} {Q : State → Prop} {cells slots : Nat} {cc : ByteArray} {ws : va_W} {L : List (Nat × Value)} {pc : Nat} {stk : List Value} (cx : gX p s m args meth c cc nL RX12 D tys A) {a : Nat} {fs : List Value} {x : Int32} (q0 : Nat) (he : ws[q0]? = some (a, .inr (10, fs))) (hl : 4 < fs.length) {ws' : va_W} (hw : ws.set q0 (a, .inr (10, fs.set 4 (.int x))) = ws') (hd : decode cc pc = .ok (.putfield 91, 3)) (kk : gW p l e R s m args below meth c D A nL Q cells slots ws' L (pc + 3) stk) : gW p l e R s m args below meth c D A nL Q cells slots ws L pc (.int x :: .ref a :: stk) :=
  g_put cx (C := RX12) (T := TX12) (N := 38) (ty0 := tyX12) (ty := .int) inT12 tyX12_ok nmX12 rfl 4 (Nat.le_of_ble_eq_true rfl) q4_227 rfl rfl rfl rfl rfl q0 he hl hw hd kk
theorem mp_next {p : Program} {l : Launch} {e : Env} {R : Room} {s : State} {m : MethodId} {args : Array Value} {below : List Frame} {meth : Method} {c : Code} {D : gG} {A : Nat → Prop} {nL : Nat} {Q : State → Prop} {cells slots : Nat} {cc : ByteArray} {L : List (Nat × Value)} {pc : Nat} {stk : List Value} {β : Type} {r : β} {o : Nat → Nat} {cB cI cJ cZ : ClassId} {z : SM} (cx : gX p s m args meth c cc nL RX12 D (tyL cB cI cJ cZ) A) {x : Int32} {kf : SM → Option β} (hf : nm (mIs z 4 x) kf = some r) (hd : decode cc pc = .ok (.putfield 91, 3)) (kk : ∀ y : SM, kf y = some r → gW p l e R s m args below meth c D A nL Q cells slots (wX12 o cB cI cJ cZ y) L (pc + 3) stk) : gW p l e R s m args below meth c D A nL Q cells slots (wX12 o cB cI cJ cZ z) L pc (.int x :: .ref (o 0) :: stk) :=
  fp_RX12_91 cx 0 rfl (Nat.le_of_ble_eq_true rfl) (ws' := wX12 o cB cI cJ cZ (mIs z 4 x)) rfl hd (kk _ hf)
theorem fp_RX12_104 {p : Program} {l : Launch} {e : Env} {R : Room} {s : State} {m : MethodId} {args : Array Value} {below : List Frame} {meth : Method} {c : Code} {D : gG} {tys : List (ClassId × FieldType)} {A : Nat → Prop} {nL : Nat} {Q : State → Prop} {cells slots : Nat} {cc : ByteArray} {ws : va_W} {L : List (Nat × Value)} {pc : Nat} {stk : List Value} (cx : gX p s m args meth c cc nL RX12 D tys A) {a : Nat} {fs : List Value} {x : Int32} (q0 : Nat) (he : ws[q0]? = some (a, .inr (10, fs))) (hl : 7 < fs.length) {ws' : va_W} (hw : ws.set q0 (a, .inr (10, fs.set 7 (.int x))) = ws') (hd : decode cc pc = .ok (.putfield 104, 3)) (kk : gW p l e R s m args below meth c D A nL Q cells slots ws' L (pc + 3) stk) : gW p l e R s m args below meth c D A nL Q cells slots ws L pc (.int x :: .ref a :: stk) :=
  g_put cx (C := RX12) (T := TX12) (N := 38) (ty0 := tyX12) (ty := .int) inT12 tyX12_ok nmX12 rfl 7 (Nat.le_of_ble_eq_true rfl) q4_230 rfl rfl rfl rfl rfl q0 he hl hw hd kk
theorem mp_value {p : Program} {l : Launch} {e : Env} {R : Room} {s : State} {m : MethodId} {args : Array Value} {below : List Frame} {meth : Method} {c : Code} {D : gG} {A : Nat → Prop} {nL : Nat} {Q : State → Prop} {cells slots : Nat} {cc : ByteArray} {L : List (Nat × Value)} {pc : Nat} {stk : List Value} {β : Type} {r : β} {o : Nat → Nat} {cB cI cJ cZ : ClassId} {z : SM} (cx : gX p s m args meth c cc nL RX12 D (tyL cB cI cJ cZ) A) {x : Int32} {kf : SM → Option β} (hf : nm (mIs z 7 x) kf = some r) (hd : decode cc pc = .ok (.putfield 104, 3)) (kk : ∀ y : SM, kf y = some r → gW p l e R s m args below meth c D A nL Q cells slots (wX12 o cB cI cJ cZ y) L (pc + 3) stk) : gW p l e R s m args below meth c D A nL Q cells slots (wX12 o cB cI cJ cZ z) L pc (.int x :: .ref (o 0) :: stk) :=
  fp_RX12_104 cx 0 rfl (Nat.le_of_ble_eq_true rfl) (ws' := wX12 o cB cI cJ cZ (mIs z 7 x)) rfl hd (kk _ hf)
theorem fg_RX12_104 {p : Program} {l : Launch} {e : Env} {R : Room} {s : State} {m : MethodId} {args : Array Value} {below : List Frame} {meth : Method} {c : Code} {D : gG} {tys : List (ClassId × FieldType)} {A : Nat → Prop} {nL : Nat} {Q : State → Prop} {cells slots : Nat} {cc : ByteArray} {ws : va_W} {L : List (Nat × Value)} {pc : Nat} {stk : List Value} (cx : gX p s m args meth c cc nL RX12 D tys A) {a : Nat} {fs : List Value} {v : Value} (q0 : Nat) (he : ws[q0]? = some (a, .inr (10, fs))) (hv : fs[7]? = some v) (hd : decode cc pc = .ok (.getfield 104, 3)) (kk : gW p l e R s m args below meth c D A nL Q cells slots ws L (pc + 3) (v :: stk)) : gW p l e R s m args below meth c D A nL Q cells slots ws L pc (.ref a :: stk) :=
  g_get cx (C := RX12) (T := TX12) (N := 38) inT12 rfl 7 (Nat.le_of_ble_eq_true rfl) q4_230 rfl q0 he hv hd kk
theorem mg_value {p : Program} {l : Launch} {e : Env} {R : Room} {s : State} {m : MethodId} {args : Array Value} {below : List Frame} {meth : Method} {c : Code} {D : gG} {A : Nat → Prop} {nL : Nat} {Q : State → Prop} {cells slots : Nat} {cc : ByteArray} {L : List (Nat × Value)} {pc : Nat} {stk : List Value} {o : Nat → Nat} {cB cI cJ cZ : ClassId} {z : SM} (cx : gX p s m args meth c cc nL RX12 D (tyL cB cI cJ cZ) A) (hd : decode cc pc = .ok (.getfield 104, 3)) (kk : gW p l e R s m args below meth c D A nL Q cells slots (wX12 o cB cI cJ cZ z) L (pc + 3) (.int (mI z 7) :: stk)) : gW p l e R s m args below meth c D A nL Q cells slots (wX12 o cB cI cJ cZ z) L pc (.ref (o 0) :: stk) :=
  fg_RX12_104 cx 0 rfl rfl hd kk
theorem fg_RX12_98 {p : Program} {l : Launch} {e : Env} {R : Room} {s : State} {m : MethodId} {args : Array Value} {below : List Frame} {meth : Method} {c : Code} {D : gG} {tys : List (ClassId × FieldType)} {A : Nat → Prop} {nL : Nat} {Q : State → Prop} {cells slots : Nat} {cc : ByteArray} {ws : va_W} {L : List (Nat × Value)} {pc : Nat} {stk : List Value} (cx : gX p s m args meth c cc nL RX12 D tys A) {a : Nat} {fs : List Value} {v : Value} (q0 : Nat) (he : ws[q0]? = some (a, .inr (10, fs))) (hv : fs[6]? = some v) (hd : decode cc pc = .ok (.getfield 98, 3)) (kk : gW p l e R s m args below meth c D A nL Q cells slots ws L (pc + 3) (v :: stk)) : gW p l e R s m args below meth c D A nL Q cells slots ws L pc (.ref a :: stk) :=
  g_get cx (C := RX12) (T := TX12) (N := 38) inT12 rfl 6 (Nat.le_of_ble_eq_true rfl) q4_229 rfl q0 he hv hd kk
theorem mg_place {p : Program} {l : Launch} {e : Env} {R : Room} {s : State} {m : MethodId} {args : Array Value} {below : List Frame} {meth : Method} {c : Code} {D : gG} {A : Nat → Prop} {nL : Nat} {Q : State → Prop} {cells slots : Nat} {cc : ByteArray} {L : List (Nat × Value)} {pc : Nat} {stk : List Value} {o : Nat → Nat} {cB cI cJ cZ : ClassId} {z : SM} (cx : gX p s m args meth c cc nL RX12 D (tyL cB cI cJ cZ) A) (hd : decode cc pc = .ok (.getfield 98, 3)) (kk : gW p l e R s m args below meth c D A nL Q cells slots (wX12 o cB cI cJ cZ z) L (pc + 3) (.int (mI z 6) :: stk)) : gW p l e R s m args below meth c D A nL Q cells slots (wX12 o cB cI cJ cZ z) L pc (.ref (o 0) :: stk) :=
  fg_RX12_98 cx 0 rfl rfl hd kk
theorem fp_RX12_98 {p : Program} {l : Launch} {e : Env} {R : Room} {s : State} {m : MethodId} {args : Array Value} {below : List Frame} {meth : Method} {c : Code} {D : gG} {tys : List (ClassId × FieldType)} {A : Nat → Prop} {nL : Nat} {Q : State → Prop} {cells slots : Nat} {cc : ByteArray} {ws : va_W} {L : List (Nat × Value)} {pc : Nat} {stk : List Value} (cx : gX p s m args meth c cc nL RX12 D tys A) {a : Nat} {fs : List Value} {x : Int32} (q0 : Nat) (he : ws[q0]? = some (a, .inr (10, fs))) (hl : 6 < fs.length) {ws' : va_W} (hw : ws.set q0 (a, .inr (10, fs.set 6 (.int x))) = ws') (hd : decode cc pc = .ok (.putfield 98, 3)) (kk : gW p l e R s m args below meth c D A nL Q cells slots ws' L (pc + 3) stk) : gW p l e R s m args below meth c D A nL Q cells slots ws L pc (.int x :: .ref a :: stk) :=
  g_put cx (C := RX12) (T := TX12) (N := 38) (ty0 := tyX12) (ty := .int) inT12 tyX12_ok nmX12 rfl 6 (Nat.le_of_ble_eq_true rfl) q4_229 rfl rfl rfl rfl rfl q0 he hl hw hd kk
theorem mp_place {p : Program} {l : Launch} {e : Env} {R : Room} {s : State} {m : MethodId} {args : Array Value} {below : List Frame} {meth : Method} {c : Code} {D : gG} {A : Nat → Prop} {nL : Nat} {Q : State → Prop} {cells slots : Nat} {cc : ByteArray} {L : List (Nat × Value)} {pc : Nat} {stk : List Value} {β : Type} {r : β} {o : Nat → Nat} {cB cI cJ cZ : ClassId} {z : SM} (cx : gX p s m args meth c cc nL RX12 D (tyL cB cI cJ cZ) A) {x : Int32} {kf : SM → Option β} (hf : nm (mIs z 6 x) kf = some r) (hd : decode cc pc = .ok (.putfield 98, 3)) (kk : ∀ y : SM, kf y = some r → gW p l e R s m args below meth c D A nL Q cells slots (wX12 o cB cI cJ cZ y) L (pc + 3) stk) : gW p l e R s m args below meth c D A nL Q cells slots (wX12 o cB cI cJ cZ z) L pc (.int x :: .ref (o 0) :: stk) :=
  fp_RX12_98 cx 0 rfl (Nat.le_of_ble_eq_true rfl) (ws' := wX12 o cB cI cJ cZ (mIs z 6 x)) rfl hd (kk _ hf)
def F_X12_advances_b66 : Nat → SM → Option (SM)
  | 0, _ => none
  | n + 1, zs_o => (F_X12_byteAt zs_o (mI zs_o 4)).bind fun q_1 => (F_X12_in q_1 97 122).bind fun q_2 => (if q_2 = 0 then nm (mIs zs_o 5 1) fun s_o_3 => some (s_o_3) else nm (mIs zs_o 4 ((mI zs_o 4) + 1)) fun s_o_4 => (F_X12_advances_b66  n) s_o_4)
def F_X12_advances_b175 (K121 : Int32 → SM → Option (SM)) (v1 : Int32) (zs_o : SM) (k1 : Int32) : Option (SM) := nm (mIs zs_o 7 k1) fun s_o_5 => nm (mIs s_o_5 4 ((mI s_o_5 4) + 1)) fun s_o_6 => K121 v1 s_o_6
def F_X12_advances_b225 (zs_o : SM) (k1 : Int32) : Option (SM) := nm (mIs zs_o 5 k1) fun s_o_7 => some (s_o_7)
def F_X12_advances_b220 (zs_o : SM) : Option (SM) := F_X12_advances_b225  zs_o 4
def F_X12_advances_b224 (zs_o : SM) : Option (SM) := F_X12_advances_b225  zs_o 2
def F_X12_advances_b121 : Nat → Int32 → SM → Option (SM)
  | 0, _, _ => none
  | n + 1, v1, zs_o => (F_X12_byteAt zs_o (mI zs_o 4)).bind fun q_8 => (F_X12_in q_8 48 57).bind fun q_9 => (if q_9 = 0 then (if 99 < (mI zs_o 7) then F_X12_advances_b220  zs_o else (if v1 = 48 then (if ((mI zs_o 4) - (mI zs_o 6)) ≤ 1 then F_X12_advances_b224  zs_o else F_X12_advances_b220  zs_o) else F_X12_advances_b224  zs_o)) else (if (mI zs_o 7) ≤ 99 then (F_X12_byteAt zs_o (mI zs_o 4)).bind fun q_10 => F_X12_advances_b175  (F_X12_advances_b121  n) v1 zs_o (((10 * (mI zs_o 7)) + q_10) - 48) else F_X12_advances_b175  (F_X12_advances_b121  n) v1 zs_o (mI zs_o 7)))
def F_X12_advances_b253 (zs_o : SM) (k1 : Int32) : Option (SM) := nm (mIs zs_o 5 k1) fun s_o_11 => some (s_o_11)
def F_X12_advances_b0 : Nat → SM → Option (SM)
  | 0, _ => none
  | n + 1, zs_o => (F_X12_byteAt zs_o (mI zs_o 4)).bind fun q_12 => (if q_12 = 32 then nm (mIs zs_o 4 ((mI zs_o 4) + 1)) fun s_o_21 => (F_X12_advances_b0  n) s_o_21 else nm (mIs zs_o 6 (mI zs_o 4)) fun s_o_13 => (F_X12_byteAt s_o_13 (mI s_o_13 4)).bind fun q_14 => nm q_14 fun v1_15 => (if 0 ≤ v1_15 then (F_X12_in v1_15 97 122).bind fun q_16 => (if q_16 = 0 then (F_X12_in v1_15 48 57).bind fun q_17 => (if q_17 = 0 then nm (mIs s_o_13 4 ((mI s_o_13 4) + 1)) fun s_o_18 => (if v1_15 = 59 then F_X12_advances_b253  s_o_18 3 else F_X12_advances_b253  s_o_18 4) else nm (mIs s_o_13 7 0) fun s_o_19 => F_X12_advances_b121  fu v1_15 s_o_19) else F_X12_advances_b66  fu s_o_13) else nm (mIs s_o_13 5 0) fun s_o_20 => some (s_o_20)))
def F_X12_advances (s_o : SM) : Option (SM) := F_X12_advances_b0  fu s_o

abbrev rm_X12_advances : Room := { frames := 1, cells := 0, slots := 0, locals := 22 }
set_option maxHeartbeats 4000000 in
set_option maxRecDepth 100000 in
theorem c_X12_advances (l : Launch) (D : gG) (cB cI cJ cZ : ClassId) (o : Nat → Nat) (s_o : SM) (r : SM) (hf : F_X12_advances s_o = some r) : gM l D (tyL cB cI cJ cZ) yX12_advances cX12_advances 2 none rm_X12_advances [.ref (o 0)] (wX12 o cB cI cJ cZ s_o) none (wX12 o cB cI cJ cZ r) := by
  refine met_of (by decide) (Nat.le_of_ble_eq_true rfl) ?_
  intro p e s m args below meth c A cx hr hA
  show gW p l e rm_X12_advances s m args below meth c D A 2 _ 0 0 _ [(0, .ref (o 0))] 0 []
  have h66 : ∀ (n : Nat) (zs_o : SM), F_X12_advances_b66  n zs_o = some r → gW p l e rm_X12_advances s m args below meth c D A 2 (MQ below (QM D (tyL cB cI cJ cZ) none (wX12 o cB cI cJ cZ s_o) (wX12 o cB cI cJ cZ r) s.heap.size) args s 0 0 A) 0 0 (wX12 o cB cI cJ cZ zs_o) [(0, .ref (o 0))] 66 [] := by
    intro n
    induction n with
    | zero => intro zs_o hf; rw [F_X12_advances_b66] at hf; cases hf
    | succ n ih =>
      intro zs_o hf
      rw [F_X12_advances_b66] at hf
      refine g_aln cx 0 dX12_advances_66 rfl ?_
      refine g_aln cx 0 dX12_advances_67 rfl ?_
      refine mg_next cx dX12_advances_68 ?_
      refine ob hf (fun q_1 hq_1 hf => ?_)
      refine g_callVFi cx lk_RX12_94 (c_X12_byteAt l D cB cI cJ cZ o zs_o (mI zs_o 4) q_1 hq_1) rfl (ci := 10) (q1 := 0) rfl rfl rfl (Nat.le_of_ble_eq_true rfl) ⟨rfl, rfl, Nat.le_of_ble_eq_true rfl, Nat.le_of_ble_eq_true rfl⟩ dX12_advances_71 ?_
      refine g_bp cx dX12_advances_74 k_bp97 ?_
      refine g_bp cx dX12_advances_76 k_bp122 ?_
      refine ob hf (fun q_2 hq_2 hf => ?_)
      refine g_callSiR cx lk_RX12_82 (c_X12_in l D cB cI cJ cZ q_1 97 122 q_2 hq_2) rfl [] rfl rfl rfl (Nat.le_of_ble_eq_true rfl) ⟨rfl, rfl, Nat.le_of_ble_eq_true rfl, Nat.le_of_ble_eq_true rfl⟩ dX12_advances_78 ?_
      refine g_if_eq (tgt := 97) cx hf dX12_advances_81 rfl (fun hf => ?_) (fun hf => ?_)
      · refine g_aln cx 0 dX12_advances_97 rfl ?_
        refine g_ic cx dX12_advances_98 k_ic1 ?_
        refine mp_token cx hf dX12_advances_99 (fun s_o_3 hf => ?_)
        refine g_goto (tgt := 256) cx dX12_advances_102 rfl ?_
        exact g_vret (ovf := fun (r : SM) => none) (wf := fun (r : SM) => (wX12 o cB cI cJ cZ r)) cx hA hr hf rfl rfl dX12_advances_256
      · refine g_aln cx 0 dX12_advances_84 rfl ?_
        refine g_dup cx dX12_advances_85 rfl ?_
        refine mg_next cx dX12_advances_86 ?_
        refine g_ic cx dX12_advances_89 k_ic1 ?_
        refine g_iadd cx dX12_advances_90 ?_
        refine mp_next cx hf dX12_advances_91 (fun s_o_4 hf => ?_)
        refine g_goto (tgt := 66) cx dX12_advances_94 rfl ?_
        exact ih _ hf
  have h175 : ∀ (K121 : Int32 → SM → Option (SM)), (∀ (v1 : Int32) (zs_o : SM), K121 v1 zs_o = some r → gW p l e rm_X12_advances s m args below meth c D A 2 (MQ below (QM D (tyL cB cI cJ cZ) none (wX12 o cB cI cJ cZ s_o) (wX12 o cB cI cJ cZ r) s.heap.size) args s 0 0 A) 0 0 (wX12 o cB cI cJ cZ zs_o) [(0, .ref (o 0)), (1, .int v1)] 121 []) → ∀ (v1 : Int32) (zs_o : SM) (k1 : Int32), F_X12_advances_b175  K121 v1 zs_o k1 = some r → gW p l e rm_X12_advances s m args below meth c D A 2 (MQ below (QM D (tyL cB cI cJ cZ) none (wX12 o cB cI cJ cZ s_o) (wX12 o cB cI cJ cZ r) s.heap.size) args s 0 0 A) 0 0 (wX12 o cB cI cJ cZ zs_o) [(0, .ref (o 0)), (1, .int v1)] 175 [.int k1, .ref (o 0)] := by
    intro K121 kh121 v1 zs_o k1 hf
    rw [F_X12_advances_b175] at hf
    refine mp_value cx hf dX12_advances_175 (fun s_o_5 hf => ?_)
    refine g_aln cx 0 dX12_advances_178 rfl ?_
    refine g_dup cx dX12_advances_179 rfl ?_
    refine mg_next cx dX12_advances_180 ?_
    refine g_ic cx dX12_advances_183 k_ic1 ?_
    refine g_iadd cx dX12_advances_184 ?_
    refine mp_next cx hf dX12_advances_185 (fun s_o_6 hf => ?_)
    refine g_goto (tgt := 121) cx dX12_advances_188 rfl ?_
    exact kh121 _ _ hf
  have h225 : ∀ (zs_o : SM) (k1 : Int32), F_X12_advances_b225  zs_o k1 = some r → gW p l e rm_X12_advances s m args below meth c D A 2 (MQ below (QM D (tyL cB cI cJ cZ) none (wX12 o cB cI cJ cZ s_o) (wX12 o cB cI cJ cZ r) s.heap.size) args s 0 0 A) 0 0 (wX12 o cB cI cJ cZ zs_o) [] 225 [.int k1, .ref (o 0)] := by
    intro zs_o k1 hf
    rw [F_X12_advances_b225] at hf
    refine mp_token cx hf dX12_advances_225 (fun s_o_7 hf => ?_)
    refine g_goto (tgt := 256) cx dX12_advances_228 rfl ?_
    exact g_vret (ovf := fun (r : SM) => none) (wf := fun (r : SM) => (wX12 o cB cI cJ cZ r)) cx hA hr hf rfl rfl dX12_advances_256
  have h220 : ∀ (zs_o : SM), F_X12_advances_b220  zs_o = some r → gW p l e rm_X12_advances s m args below meth c D A 2 (MQ below (QM D (tyL cB cI cJ cZ) none (wX12 o cB cI cJ cZ s_o) (wX12 o cB cI cJ cZ r) s.heap.size) args s 0 0 A) 0 0 (wX12 o cB cI cJ cZ zs_o) [] 220 [.ref (o 0)] := by
    intro zs_o hf
    rw [F_X12_advances_b220] at hf
    refine g_ic cx dX12_advances_220 k_ic4 ?_
    refine g_goto (tgt := 225) cx dX12_advances_221 rfl ?_
    exact h225 _ _ hf
  have h224 : ∀ (zs_o : SM), F_X12_advances_b224  zs_o = some r → gW p l e rm_X12_advances s m args below meth c D A 2 (MQ below (QM D (tyL cB cI cJ cZ) none (wX12 o cB cI cJ cZ s_o) (wX12 o cB cI cJ cZ r) s.heap.size) args s 0 0 A) 0 0 (wX12 o cB cI cJ cZ zs_o) [] 224 [.ref (o 0)] := by
    intro zs_o hf
    rw [F_X12_advances_b224] at hf
    refine g_ic cx dX12_advances_224 k_ic2 ?_
    exact h225 _ _ hf
  have h121 : ∀ (n : Nat) (v1 : Int32) (zs_o : SM), F_X12_advances_b121  n v1 zs_o = some r → gW p l e rm_X12_advances s m args below meth c D A 2 (MQ below (QM D (tyL cB cI cJ cZ) none (wX12 o cB cI cJ cZ s_o) (wX12 o cB cI cJ cZ r) s.heap.size) args s 0 0 A) 0 0 (wX12 o cB cI cJ cZ zs_o) [(0, .ref (o 0)), (1, .int v1)] 121 [] := by
    intro n
    induction n with
    | zero => intro v1 zs_o hf; rw [F_X12_advances_b121] at hf; cases hf
    | succ n ih =>
      intro v1 zs_o hf
      rw [F_X12_advances_b121] at hf
      refine g_aln cx 0 dX12_advances_121 rfl ?_
      refine g_aln cx 0 dX12_advances_122 rfl ?_
      refine mg_next cx dX12_advances_123 ?_
      refine ob hf (fun q_8 hq_8 hf => ?_)
      refine g_callVFi cx lk_RX12_94 (c_X12_byteAt l D cB cI cJ cZ o zs_o (mI zs_o 4) q_8 hq_8) rfl (ci := 10) (q1 := 0) rfl rfl rfl (Nat.le_of_ble_eq_true rfl) ⟨rfl, rfl, Nat.le_of_ble_eq_true rfl, Nat.le_of_ble_eq_true rfl⟩ dX12_advances_126 ?_
      refine g_bp cx dX12_advances_129 k_bp48 ?_
      refine g_bp cx dX12_advances_131 k_bp57 ?_
      refine ob hf (fun q_9 hq_9 hf => ?_)
      refine g_callSiR cx lk_RX12_82 (c_X12_in l D cB cI cJ cZ q_8 48 57 q_9 hq_9) rfl [] rfl rfl rfl (Nat.le_of_ble_eq_true rfl) ⟨rfl, rfl, Nat.le_of_ble_eq_true rfl, Nat.le_of_ble_eq_true rfl⟩ dX12_advances_133 ?_
      refine g_if_eq (tgt := 191) cx hf dX12_advances_136 rfl (fun hf => ?_) (fun hf => ?_)
      · refine g_aln cx 0 dX12_advances_191 rfl ?_
        refine g_aln cx 0 dX12_advances_192 rfl ?_
        refine mg_value cx dX12_advances_193 ?_
        refine g_bp cx dX12_advances_196 k_bp99 ?_
        refine g_ic_gt (tgt := 220) cx hf dX12_advances_198 rfl (fun hf => ?_) (fun hf => ?_)
        · refine g_sub [] rfl ?_
          exact h220 _ hf
        · refine g_iln cx 1 dX12_advances_201 rfl ?_
          refine g_bp cx dX12_advances_202 k_bp48 ?_
          refine g_ic_ne (tgt := 224) cx hf dX12_advances_204 rfl (fun hf => ?_) (fun hf => ?_)
          · refine g_sub [] rfl ?_
            exact h224 _ hf
          · refine g_aln cx 0 dX12_advances_207 rfl ?_
            refine mg_next cx dX12_advances_208 ?_
            refine g_aln cx 0 dX12_advances_211 rfl ?_
            refine mg_place cx dX12_advances_212 ?_
            refine g_isub cx dX12_advances_215 ?_
            refine g_ic cx dX12_advances_216 k_ic1 ?_
            refine g_ic_le (tgt := 224) cx hf dX12_advances_217 rfl (fun hf => ?_) (fun hf => ?_)
            · refine g_sub [] rfl ?_
              exact h224 _ hf
            · refine g_sub [] rfl ?_
              exact h220 _ hf
      · refine g_aln cx 0 dX12_advances_139 rfl ?_
        refine g_aln cx 0 dX12_advances_140 rfl ?_
        refine mg_value cx dX12_advances_141 ?_
        refine g_bp cx dX12_advances_144 k_bp99 ?_
        refine g_ic_le (tgt := 156) cx hf dX12_advances_146 rfl (fun hf => ?_) (fun hf => ?_)
        · refine g_bp cx dX12_advances_156 k_bp10 ?_
          refine g_aln cx 0 dX12_advances_158 rfl ?_
          refine mg_value cx dX12_advances_159 ?_
          refine g_imul cx dX12_advances_162 ?_
          refine g_aln cx 0 dX12_advances_163 rfl ?_
          refine g_aln cx 0 dX12_advances_164 rfl ?_
          refine mg_next cx dX12_advances_165 ?_
          refine ob hf (fun q_10 hq_10 hf => ?_)
          refine g_callVFi cx lk_RX12_94 (c_X12_byteAt l D cB cI cJ cZ o zs_o (mI zs_o 4) q_10 hq_10) rfl (ci := 10) (q1 := 0) rfl rfl rfl (Nat.le_of_ble_eq_true rfl) ⟨rfl, rfl, Nat.le_of_ble_eq_true rfl, Nat.le_of_ble_eq_true rfl⟩ dX12_advances_168 ?_
          refine g_iadd cx dX12_advances_171 ?_
          refine g_bp cx dX12_advances_172 k_bp48 ?_
          refine g_isub cx dX12_advances_174 ?_
          exact h175 _ ih _ _ _ hf
        · refine g_aln cx 0 dX12_advances_149 rfl ?_
          refine mg_value cx dX12_advances_150 ?_
          refine g_goto (tgt := 175) cx dX12_advances_153 rfl ?_
          exact h175 _ ih _ _ _ hf
  have h253 : ∀ (zs_o : SM) (k1 : Int32), F_X12_advances_b253  zs_o k1 = some r → gW p l e rm_X12_advances s m args below meth c D A 2 (MQ below (QM D (tyL cB cI cJ cZ) none (wX12 o cB cI cJ cZ s_o) (wX12 o cB cI cJ cZ r) s.heap.size) args s 0 0 A) 0 0 (wX12 o cB cI cJ cZ zs_o) [] 253 [.int k1, .ref (o 0)] := by
    intro zs_o k1 hf
    rw [F_X12_advances_b253] at hf
    refine mp_token cx hf dX12_advances_253 (fun s_o_11 hf => ?_)
    exact g_vret (ovf := fun (r : SM) => none) (wf := fun (r : SM) => (wX12 o cB cI cJ cZ r)) cx hA hr hf rfl rfl dX12_advances_256
  have h0 : ∀ (n : Nat) (zs_o : SM), F_X12_advances_b0  n zs_o = some r → gW p l e rm_X12_advances s m args below meth c D A 2 (MQ below (QM D (tyL cB cI cJ cZ) none (wX12 o cB cI cJ cZ s_o) (wX12 o cB cI cJ cZ r) s.heap.size) args s 0 0 A) 0 0 (wX12 o cB cI cJ cZ zs_o) [(0, .ref (o 0))] 0 [] := by
    intro n
    induction n with
    | zero => intro zs_o hf; rw [F_X12_advances_b0] at hf; cases hf
    | succ n ih =>
      intro zs_o hf
      rw [F_X12_advances_b0] at hf
      refine g_aln cx 0 dX12_advances_0 rfl ?_
      refine g_aln cx 0 dX12_advances_1 rfl ?_
      refine mg_next cx dX12_advances_2 ?_
      refine ob hf (fun q_12 hq_12 hf => ?_)
      refine g_callVFi cx lk_RX12_94 (c_X12_byteAt l D cB cI cJ cZ o zs_o (mI zs_o 4) q_12 hq_12) rfl (ci := 10) (q1 := 0) rfl rfl rfl (Nat.le_of_ble_eq_true rfl) ⟨rfl, rfl, Nat.le_of_ble_eq_true rfl, Nat.le_of_ble_eq_true rfl⟩ dX12_advances_5 ?_
      refine g_bp cx dX12_advances_8 k_bp32 ?_
      refine g_ic_ne (tgt := 26) cx hf dX12_advances_10 rfl (fun hf => ?_) (fun hf => ?_)
      · refine g_aln cx 0 dX12_advances_26 rfl ?_
        refine g_aln cx 0 dX12_advances_27 rfl ?_
        refine mg_next cx dX12_advances_28 ?_
        refine mp_place cx hf dX12_advances_31 (fun s_o_13 hf => ?_)
        refine g_aln cx 0 dX12_advances_34 rfl ?_
        refine g_aln cx 0 dX12_advances_35 rfl ?_
        refine mg_next cx dX12_advances_36 ?_
        refine ob hf (fun q_14 hq_14 hf => ?_)
        refine g_callVFi cx lk_RX12_94 (c_X12_byteAt l D cB cI cJ cZ o s_o_13 (mI s_o_13 4) q_14 hq_14) rfl (ci := 10) (q1 := 0) rfl rfl rfl (Nat.le_of_ble_eq_true rfl) ⟨rfl, rfl, Nat.le_of_ble_eq_true rfl, Nat.le_of_ble_eq_true rfl⟩ dX12_advances_39 ?_
        refine g_isn cx (L2 := fun v1_15 => [(1, .int v1_15), (0, .ref (o 0))]) hf dX12_advances_42 (Nat.le_of_ble_eq_true rfl) (fun _ => rfl) (fun v1_15 hf => ?_)
        refine g_iln cx 0 dX12_advances_43 rfl ?_
        refine g_if_ge (tgt := 55) cx hf dX12_advances_44 rfl (fun hf => ?_) (fun hf => ?_)
        · refine g_iln cx 0 dX12_advances_55 rfl ?_
          refine g_bp cx dX12_advances_56 k_bp97 ?_
          refine g_bp cx dX12_advances_58 k_bp122 ?_
          refine ob hf (fun q_16 hq_16 hf => ?_)
          refine g_callSiR cx lk_RX12_82 (c_X12_in l D cB cI cJ cZ v1_15 97 122 q_16 hq_16) rfl [] rfl rfl rfl (Nat.le_of_ble_eq_true rfl) ⟨rfl, rfl, Nat.le_of_ble_eq_true rfl, Nat.le_of_ble_eq_true rfl⟩ dX12_advances_60 ?_
          refine g_if_eq (tgt := 105) cx hf dX12_advances_63 rfl (fun hf => ?_) (fun hf => ?_)
          · refine g_iln cx 0 dX12_advances_105 rfl ?_
            refine g_bp cx dX12_advances_106 k_bp48 ?_
            refine g_bp cx dX12_advances_108 k_bp57 ?_
            refine ob hf (fun q_17 hq_17 hf => ?_)
            refine g_callSiR cx lk_RX12_82 (c_X12_in l D cB cI cJ cZ v1_15 48 57 q_17 hq_17) rfl [] rfl rfl rfl (Nat.le_of_ble_eq_true rfl) ⟨rfl, rfl, Nat.le_of_ble_eq_true rfl, Nat.le_of_ble_eq_true rfl⟩ dX12_advances_110 ?_
            refine g_if_eq (tgt := 231) cx hf dX12_advances_113 rfl (fun hf => ?_) (fun hf => ?_)
            · refine g_aln cx 1 dX12_advances_231 rfl ?_
              refine g_dup cx dX12_advances_232 rfl ?_
              refine mg_next cx dX12_advances_233 ?_
              refine g_ic cx dX12_advances_236 k_ic1 ?_
              refine g_iadd cx dX12_advances_237 ?_
              refine mp_next cx hf dX12_advances_238 (fun s_o_18 hf => ?_)
              refine g_aln cx 1 dX12_advances_241 rfl ?_
              refine g_iln cx 0 dX12_advances_242 rfl ?_
              refine g_bp cx dX12_advances_243 k_bp59 ?_
              refine g_ic_ne (tgt := 252) cx hf dX12_advances_245 rfl (fun hf => ?_) (fun hf => ?_)
              · refine g_ic cx dX12_advances_252 k_ic4 ?_
                refine g_sub [] rfl ?_
                exact h253 _ _ hf
              · refine g_ic cx dX12_advances_248 k_ic3 ?_
                refine g_goto (tgt := 253) cx dX12_advances_249 rfl ?_
                refine g_sub [] rfl ?_
                exact h253 _ _ hf
            · refine g_aln cx 1 dX12_advances_116 rfl ?_
              refine g_ic cx dX12_advances_117 k_ic0 ?_
              refine mp_value cx hf dX12_advances_118 (fun s_o_19 hf => ?_)
              refine g_sub [1, 0] rfl ?_
              exact h121 fu _ _ hf
          · refine g_sub [1] rfl ?_
            exact h66 fu _ hf
        · refine g_aln cx 1 dX12_advances_47 rfl ?_
          refine g_ic cx dX12_advances_48 k_ic0 ?_
          refine mp_token cx hf dX12_advances_49 (fun s_o_20 hf => ?_)
          refine g_goto (tgt := 256) cx dX12_advances_52 rfl ?_
          exact g_vret (ovf := fun (r : SM) => none) (wf := fun (r : SM) => (wX12 o cB cI cJ cZ r)) cx hA hr hf rfl rfl dX12_advances_256
      · refine g_aln cx 0 dX12_advances_13 rfl ?_
        refine g_dup cx dX12_advances_14 rfl ?_
        refine mg_next cx dX12_advances_15 ?_
        refine g_ic cx dX12_advances_18 k_ic1 ?_
        refine g_iadd cx dX12_advances_19 ?_
        refine mp_next cx hf dX12_advances_20 (fun s_o_21 hf => ?_)
        refine g_goto (tgt := 0) cx dX12_advances_23 rfl ?_
        exact ih _ hf
  rw [F_X12_advances] at hf
  exact h0 fu _ hf
theorem dX12_isWell_0 : decode cX12_isWell 0 = .ok (.aload_n 0, 1) := by decide +kernel
theorem dX12_isWell_1 : decode cX12_isWell 1 = .ok (.getfield 107, 3) := by decide +kernel
theorem dX12_isWell_4 : decode cX12_isWell 4 = .ok (.ifCond .ge 7, 3) := by decide +kernel
theorem dX12_isWell_7 : decode cX12_isWell 7 = .ok (.iconst 1, 1) := by decide +kernel
theorem dX12_isWell_8 : decode cX12_isWell 8 = .ok (.goto 4, 3) := by decide +kernel
theorem dX12_isWell_11 : decode cX12_isWell 11 = .ok (.iconst 0, 1) := by decide +kernel
theorem dX12_isWell_12 : decode cX12_isWell 12 = .ok (.ireturn, 1) := by decide +kernel
theorem q4_231 : Cond.fieldLink RX12 107 "RhymeLawModel" "fault" "I" ∈ TT := tq4 231 rfl rfl
theorem fg_RX12_107 {p : Program} {l : Launch} {e : Env} {R : Room} {s : State} {m : MethodId} {args : Array Value} {below : List Frame} {meth : Method} {c : Code} {D : gG} {tys : List (ClassId × FieldType)} {A : Nat → Prop} {nL : Nat} {Q : State → Prop} {cells slots : Nat} {cc : ByteArray} {ws : va_W} {L : List (Nat × Value)} {pc : Nat} {stk : List Value} (cx : gX p s m args meth c cc nL RX12 D tys A) {a : Nat} {fs : List Value} {v : Value} (q0 : Nat) (he : ws[q0]? = some (a, .inr (10, fs))) (hv : fs[8]? = some v) (hd : decode cc pc = .ok (.getfield 107, 3)) (kk : gW p l e R s m args below meth c D A nL Q cells slots ws L (pc + 3) (v :: stk)) : gW p l e R s m args below meth c D A nL Q cells slots ws L pc (.ref a :: stk) :=
  g_get cx (C := RX12) (T := TX12) (N := 38) inT12 rfl 8 (Nat.le_of_ble_eq_true rfl) q4_231 rfl q0 he hv hd kk
theorem mg_fault {p : Program} {l : Launch} {e : Env} {R : Room} {s : State} {m : MethodId} {args : Array Value} {below : List Frame} {meth : Method} {c : Code} {D : gG} {A : Nat → Prop} {nL : Nat} {Q : State → Prop} {cells slots : Nat} {cc : ByteArray} {L : List (Nat × Value)} {pc : Nat} {stk : List Value} {o : Nat → Nat} {cB cI cJ cZ : ClassId} {z : SM} (cx : gX p s m args meth c cc nL RX12 D (tyL cB cI cJ cZ) A) (hd : decode cc pc = .ok (.getfield 107, 3)) (kk : gW p l e R s m args below meth c D A nL Q cells slots (wX12 o cB cI cJ cZ z) L (pc + 3) (.int (mI z 8) :: stk)) : gW p l e R s m args below meth c D A nL Q cells slots (wX12 o cB cI cJ cZ z) L pc (.ref (o 0) :: stk) :=
  fg_RX12_107 cx 0 rfl rfl hd kk
def F_X12_isWell (s_o : SM) : Option (Int32) := (if 0 ≤ (mI s_o 8) then some (0) else some (1))

abbrev rm_X12_isWell : Room := { frames := 0, cells := 0, slots := 0, locals := 0 }
set_option maxHeartbeats 4000000 in
set_option maxRecDepth 100000 in
theorem c_X12_isWell (l : Launch) (D : gG) (cB cI cJ cZ : ClassId) (o : Nat → Nat) (s_o : SM) (r : Int32) (hf : F_X12_isWell s_o = some r) : gM l D (tyL cB cI cJ cZ) yX12_isWell cX12_isWell 1 (some .boolean) rm_X12_isWell [.ref (o 0)] (wX12 o cB cI cJ cZ s_o) (some (.int r)) (wX12 o cB cI cJ cZ s_o) := by
  refine met_of (by decide) (Nat.le_of_ble_eq_true rfl) ?_
  intro p e s m args below meth c A cx hr hA
  show gW p l e rm_X12_isWell s m args below meth c D A 1 _ 0 0 _ [(0, .ref (o 0))] 0 []
  rw [F_X12_isWell] at hf
  refine g_aln cx 0 dX12_isWell_0 rfl ?_
  refine mg_fault cx dX12_isWell_1 ?_
  refine g_if_ge (tgt := 11) cx hf dX12_isWell_4 rfl (fun hf => ?_) (fun hf => ?_)
  · refine g_ic cx dX12_isWell_11 k_ic0 ?_
    exact g_zret (ovf := fun (r : Int32) => (some (.int r))) (wf := fun (r : Int32) => (wX12 o cB cI cJ cZ s_o)) cx hA hr rfl hf rfl rfl dX12_isWell_12
  · refine g_ic cx dX12_isWell_7 k_ic1 ?_
    refine g_goto (tgt := 12) cx dX12_isWell_8 rfl ?_
    exact g_zret (ovf := fun (r : Int32) => (some (.int r))) (wf := fun (r : Int32) => (wX12 o cB cI cJ cZ s_o)) cx hA hr rfl hf rfl rfl dX12_isWell_12
theorem dX12_wants_0 : decode cX12_wants 0 = .ok (.aload_n 0, 1) := by decide +kernel
theorem dX12_wants_1 : decode cX12_wants 1 = .ok (.invokevirtual 110, 3) := by decide +kernel
theorem dX12_wants_4 : decode cX12_wants 4 = .ok (.ifCond .eq 15, 3) := by decide +kernel
theorem dX12_wants_7 : decode cX12_wants 7 = .ok (.iload_n 1, 1) := by decide +kernel
theorem dX12_wants_8 : decode cX12_wants 8 = .ok (.ifCond .ne 11, 3) := by decide +kernel
theorem dX12_wants_11 : decode cX12_wants 11 = .ok (.aload_n 0, 1) := by decide +kernel
theorem dX12_wants_12 : decode cX12_wants 12 = .ok (.aload_n 0, 1) := by decide +kernel
theorem dX12_wants_13 : decode cX12_wants 13 = .ok (.getfield 98, 3) := by decide +kernel
theorem dX12_wants_16 : decode cX12_wants 16 = .ok (.putfield 107, 3) := by decide +kernel
theorem dX12_wants_19 : decode cX12_wants 19 = .ok (.return_, 1) := by decide +kernel
theorem q0_29 : Cond.selects RX12 yX12_isWell yX12_isWell ∈ TT := tq0 29 rfl rfl
theorem q5_123 : Cond.methodLink RX12 110 yX12_isWell ∈ TT := tq5 123 rfl rfl
theorem q5_125 : Cond.instanceMethod yX12_isWell ∈ TT := tq5 125 rfl rfl
theorem q5_126 : Cond.code yX12_isWell cX12_isWell 1 (some .boolean) ∈ TT := tq5 126 rfl rfl
theorem lk_RX12_110 : vlk RX12 110 yX12_isWell cX12_isWell 1 (some .boolean) 0 := ⟨List.forall_mem_cons.mpr ⟨q5_123, List.forall_mem_cons.mpr ⟨q5_125, List.forall_mem_cons.mpr ⟨q0_29, List.forall_mem_cons.mpr ⟨q1_12, fun _ h => absurd h List.not_mem_nil⟩⟩⟩⟩, q5_126, by decide, by decide, by decide +kernel⟩
theorem fp_RX12_107 {p : Program} {l : Launch} {e : Env} {R : Room} {s : State} {m : MethodId} {args : Array Value} {below : List Frame} {meth : Method} {c : Code} {D : gG} {tys : List (ClassId × FieldType)} {A : Nat → Prop} {nL : Nat} {Q : State → Prop} {cells slots : Nat} {cc : ByteArray} {ws : va_W} {L : List (Nat × Value)} {pc : Nat} {stk : List Value} (cx : gX p s m args meth c cc nL RX12 D tys A) {a : Nat} {fs : List Value} {x : Int32} (q0 : Nat) (he : ws[q0]? = some (a, .inr (10, fs))) (hl : 8 < fs.length) {ws' : va_W} (hw : ws.set q0 (a, .inr (10, fs.set 8 (.int x))) = ws') (hd : decode cc pc = .ok (.putfield 107, 3)) (kk : gW p l e R s m args below meth c D A nL Q cells slots ws' L (pc + 3) stk) : gW p l e R s m args below meth c D A nL Q cells slots ws L pc (.int x :: .ref a :: stk) :=
  g_put cx (C := RX12) (T := TX12) (N := 38) (ty0 := tyX12) (ty := .int) inT12 tyX12_ok nmX12 rfl 8 (Nat.le_of_ble_eq_true rfl) q4_231 rfl rfl rfl rfl rfl q0 he hl hw hd kk
theorem mp_fault {p : Program} {l : Launch} {e : Env} {R : Room} {s : State} {m : MethodId} {args : Array Value} {below : List Frame} {meth : Method} {c : Code} {D : gG} {A : Nat → Prop} {nL : Nat} {Q : State → Prop} {cells slots : Nat} {cc : ByteArray} {L : List (Nat × Value)} {pc : Nat} {stk : List Value} {β : Type} {r : β} {o : Nat → Nat} {cB cI cJ cZ : ClassId} {z : SM} (cx : gX p s m args meth c cc nL RX12 D (tyL cB cI cJ cZ) A) {x : Int32} {kf : SM → Option β} (hf : nm (mIs z 8 x) kf = some r) (hd : decode cc pc = .ok (.putfield 107, 3)) (kk : ∀ y : SM, kf y = some r → gW p l e R s m args below meth c D A nL Q cells slots (wX12 o cB cI cJ cZ y) L (pc + 3) stk) : gW p l e R s m args below meth c D A nL Q cells slots (wX12 o cB cI cJ cZ z) L pc (.int x :: .ref (o 0) :: stk) :=
  fp_RX12_107 cx 0 rfl (Nat.le_of_ble_eq_true rfl) (ws' := wX12 o cB cI cJ cZ (mIs z 8 x)) rfl hd (kk _ hf)
def F_X12_wants (s_o : SM) (x1 : Int32) : Option (SM) := (F_X12_isWell s_o).bind fun q_1 => (if q_1 = 0 then some (s_o) else (if x1 = 0 then nm (mIs s_o 8 (mI s_o 6)) fun s_o_2 => some (s_o_2) else some (s_o)))

abbrev rm_X12_wants : Room := { frames := 1, cells := 0, slots := 0, locals := 20 }
set_option maxHeartbeats 4000000 in
set_option maxRecDepth 100000 in
theorem c_X12_wants (l : Launch) (D : gG) (cB cI cJ cZ : ClassId) (o : Nat → Nat) (s_o : SM) (x1 : Int32) (r : SM) (hf : F_X12_wants s_o x1 = some r) : gM l D (tyL cB cI cJ cZ) yX12_wants cX12_wants 2 none rm_X12_wants [.ref (o 0), .int x1] (wX12 o cB cI cJ cZ s_o) none (wX12 o cB cI cJ cZ r) := by
  refine met_of (by decide) (Nat.le_of_ble_eq_true rfl) ?_
  intro p e s m args below meth c A cx hr hA
  show gW p l e rm_X12_wants s m args below meth c D A 2 _ 0 0 _ [(0, .ref (o 0)), (1, .int x1)] 0 []
  rw [F_X12_wants] at hf
  refine g_aln cx 0 dX12_wants_0 rfl ?_
  refine ob hf (fun q_1 hq_1 hf => ?_)
  refine g_callVFi cx lk_RX12_110 (c_X12_isWell l D cB cI cJ cZ o s_o q_1 hq_1) rfl (ci := 10) (q1 := 0) rfl rfl rfl (Nat.le_of_ble_eq_true rfl) ⟨rfl, rfl, Nat.le_of_ble_eq_true rfl, Nat.le_of_ble_eq_true rfl⟩ dX12_wants_1 ?_
  refine g_if_eq (tgt := 19) cx hf dX12_wants_4 rfl (fun hf => ?_) (fun hf => ?_)
  · exact g_vret (ovf := fun (r : SM) => none) (wf := fun (r : SM) => (wX12 o cB cI cJ cZ r)) cx hA hr hf rfl rfl dX12_wants_19
  · refine g_iln cx 1 dX12_wants_7 rfl ?_
    refine g_if_ne (tgt := 19) cx hf dX12_wants_8 rfl (fun hf => ?_) (fun hf => ?_)
    · exact g_vret (ovf := fun (r : SM) => none) (wf := fun (r : SM) => (wX12 o cB cI cJ cZ r)) cx hA hr hf rfl rfl dX12_wants_19
    · refine g_aln cx 0 dX12_wants_11 rfl ?_
      refine g_aln cx 0 dX12_wants_12 rfl ?_
      refine mg_place cx dX12_wants_13 ?_
      refine mp_fault cx hf dX12_wants_16 (fun s_o_2 hf => ?_)
      exact g_vret (ovf := fun (r : SM) => none) (wf := fun (r : SM) => (wX12 o cB cI cJ cZ r)) cx hA hr hf rfl rfl dX12_wants_19
theorem dX12_number_0 : decode cX12_number 0 = .ok (.aload_n 0, 1) := by decide +kernel
theorem dX12_number_1 : decode cX12_number 1 = .ok (.aload_n 0, 1) := by decide +kernel
theorem dX12_number_2 : decode cX12_number 2 = .ok (.getfield 101, 3) := by decide +kernel
theorem dX12_number_5 : decode cX12_number 5 = .ok (.iconst 2, 1) := by decide +kernel
theorem dX12_number_6 : decode cX12_number 6 = .ok (.if_icmp .ne 19, 3) := by decide +kernel
theorem dX12_number_9 : decode cX12_number 9 = .ok (.aload_n 0, 1) := by decide +kernel
theorem dX12_number_10 : decode cX12_number 10 = .ok (.getfield 104, 3) := by decide +kernel
theorem dX12_number_13 : decode cX12_number 13 = .ok (.iload_n 1, 1) := by decide +kernel
theorem dX12_number_14 : decode cX12_number 14 = .ok (.iload_n 2, 1) := by decide +kernel
theorem dX12_number_15 : decode cX12_number 15 = .ok (.invokestatic 82, 3) := by decide +kernel
theorem dX12_number_18 : decode cX12_number 18 = .ok (.ifCond .eq 7, 3) := by decide +kernel
theorem dX12_number_21 : decode cX12_number 21 = .ok (.iconst 1, 1) := by decide +kernel
theorem dX12_number_22 : decode cX12_number 22 = .ok (.goto 4, 3) := by decide +kernel
theorem dX12_number_25 : decode cX12_number 25 = .ok (.iconst 0, 1) := by decide +kernel
theorem dX12_number_26 : decode cX12_number 26 = .ok (.invokevirtual 114, 3) := by decide +kernel
theorem dX12_number_29 : decode cX12_number 29 = .ok (.aload_n 0, 1) := by decide +kernel
theorem dX12_number_30 : decode cX12_number 30 = .ok (.invokevirtual 110, 3) := by decide +kernel
theorem dX12_number_33 : decode cX12_number 33 = .ok (.ifCond .ne 5, 3) := by decide +kernel
theorem dX12_number_36 : decode cX12_number 36 = .ok (.iconst 0, 1) := by decide +kernel
theorem dX12_number_37 : decode cX12_number 37 = .ok (.ireturn, 1) := by decide +kernel
theorem dX12_number_38 : decode cX12_number 38 = .ok (.aload_n 0, 1) := by decide +kernel
theorem dX12_number_39 : decode cX12_number 39 = .ok (.getfield 104, 3) := by decide +kernel
theorem dX12_number_42 : decode cX12_number 42 = .ok (.istore_n 3, 1) := by decide +kernel
theorem dX12_number_43 : decode cX12_number 43 = .ok (.aload_n 0, 1) := by decide +kernel
theorem dX12_number_44 : decode cX12_number 44 = .ok (.invokevirtual 118, 3) := by decide +kernel
theorem dX12_number_47 : decode cX12_number 47 = .ok (.iload_n 3, 1) := by decide +kernel
theorem dX12_number_48 : decode cX12_number 48 = .ok (.ireturn, 1) := by decide +kernel
theorem q0_27 : Cond.selects RX12 yX12_advances yX12_advances ∈ TT := tq0 27 rfl rfl
theorem q0_32 : Cond.selects RX12 yX12_wants yX12_wants ∈ TT := tq0 32 rfl rfl
theorem q5_115 : Cond.methodLink RX12 118 yX12_advances ∈ TT := tq5 115 rfl rfl
theorem q5_117 : Cond.instanceMethod yX12_advances ∈ TT := tq5 117 rfl rfl
theorem q5_118 : Cond.code yX12_advances cX12_advances 2 none ∈ TT := tq5 118 rfl rfl
theorem q5_135 : Cond.methodLink RX12 114 yX12_wants ∈ TT := tq5 135 rfl rfl
theorem q5_137 : Cond.instanceMethod yX12_wants ∈ TT := tq5 137 rfl rfl
theorem q5_138 : Cond.code yX12_wants cX12_wants 2 none ∈ TT := tq5 138 rfl rfl
theorem lk_RX12_114 : vlk RX12 114 yX12_wants cX12_wants 2 none 1 := ⟨List.forall_mem_cons.mpr ⟨q5_135, List.forall_mem_cons.mpr ⟨q5_137, List.forall_mem_cons.mpr ⟨q0_32, List.forall_mem_cons.mpr ⟨q1_12, fun _ h => absurd h List.not_mem_nil⟩⟩⟩⟩, q5_138, by decide, by decide, by decide +kernel⟩
theorem lk_RX12_118 : vlk RX12 118 yX12_advances cX12_advances 2 none 0 := ⟨List.forall_mem_cons.mpr ⟨q5_115, List.forall_mem_cons.mpr ⟨q5_117, List.forall_mem_cons.mpr ⟨q0_27, List.forall_mem_cons.mpr ⟨q1_12, fun _ h => absurd h List.not_mem_nil⟩⟩⟩⟩, q5_118, by decide, by decide, by decide +kernel⟩
theorem fg_RX12_101 {p : Program} {l : Launch} {e : Env} {R : Room} {s : State} {m : MethodId} {args : Array Value} {below : List Frame} {meth : Method} {c : Code} {D : gG} {tys : List (ClassId × FieldType)} {A : Nat → Prop} {nL : Nat} {Q : State → Prop} {cells slots : Nat} {cc : ByteArray} {ws : va_W} {L : List (Nat × Value)} {pc : Nat} {stk : List Value} (cx : gX p s m args meth c cc nL RX12 D tys A) {a : Nat} {fs : List Value} {v : Value} (q0 : Nat) (he : ws[q0]? = some (a, .inr (10, fs))) (hv : fs[5]? = some v) (hd : decode cc pc = .ok (.getfield 101, 3)) (kk : gW p l e R s m args below meth c D A nL Q cells slots ws L (pc + 3) (v :: stk)) : gW p l e R s m args below meth c D A nL Q cells slots ws L pc (.ref a :: stk) :=
  g_get cx (C := RX12) (T := TX12) (N := 38) inT12 rfl 5 (Nat.le_of_ble_eq_true rfl) q4_228 rfl q0 he hv hd kk
theorem mg_token {p : Program} {l : Launch} {e : Env} {R : Room} {s : State} {m : MethodId} {args : Array Value} {below : List Frame} {meth : Method} {c : Code} {D : gG} {A : Nat → Prop} {nL : Nat} {Q : State → Prop} {cells slots : Nat} {cc : ByteArray} {L : List (Nat × Value)} {pc : Nat} {stk : List Value} {o : Nat → Nat} {cB cI cJ cZ : ClassId} {z : SM} (cx : gX p s m args meth c cc nL RX12 D (tyL cB cI cJ cZ) A) (hd : decode cc pc = .ok (.getfield 101, 3)) (kk : gW p l e R s m args below meth c D A nL Q cells slots (wX12 o cB cI cJ cZ z) L (pc + 3) (.int (mI z 5) :: stk)) : gW p l e R s m args below meth c D A nL Q cells slots (wX12 o cB cI cJ cZ z) L pc (.ref (o 0) :: stk) :=
  fg_RX12_101 cx 0 rfl rfl hd kk
def F_X12_number_b26 (x1 : Int32) (x2 : Int32) (zs_o : SM) (k1 : Int32) : Option (Int32 × SM) := (F_X12_wants zs_o k1).bind fun q_1 => (F_X12_isWell q_1).bind fun q_2 => (if q_2 = 0 then some (0, q_1) else nm (mI q_1 7) fun v3_3 => (F_X12_advances q_1).bind fun q_4 => some (v3_3, q_4))
def F_X12_number_b25 (x1 : Int32) (x2 : Int32) (zs_o : SM) : Option (Int32 × SM) := F_X12_number_b26 x1 x2 zs_o 0
def F_X12_number (s_o : SM) (x1 : Int32) (x2 : Int32) : Option (Int32 × SM) := (if (mI s_o 5) = 2 then (F_X12_in (mI s_o 7) x1 x2).bind fun q_5 => (if q_5 = 0 then F_X12_number_b25 x1 x2 s_o else F_X12_number_b26 x1 x2 s_o 1) else F_X12_number_b25 x1 x2 s_o)

abbrev rm_X12_number : Room := { frames := 2, cells := 0, slots := 0, locals := 43 }
set_option maxHeartbeats 4000000 in
set_option maxRecDepth 100000 in
theorem c_X12_number (l : Launch) (D : gG) (cB cI cJ cZ : ClassId) (o : Nat → Nat) (s_o : SM) (x1 : Int32) (x2 : Int32) (r : Int32 × SM) (hf : F_X12_number s_o x1 x2 = some r) : gM l D (tyL cB cI cJ cZ) yX12_number cX12_number 4 (some .int) rm_X12_number [.ref (o 0), .int x1, .int x2] (wX12 o cB cI cJ cZ s_o) (some (.int r.1)) (wX12 o cB cI cJ cZ r.2) := by
  refine met_of (by decide) (Nat.le_of_ble_eq_true rfl) ?_
  intro p e s m args below meth c A cx hr hA
  show gW p l e rm_X12_number s m args below meth c D A 4 _ 0 0 _ [(0, .ref (o 0)), (1, .int x1), (2, .int x2)] 0 []
  have h26 : ∀ (zs_o : SM) (k1 : Int32), F_X12_number_b26 x1 x2 zs_o k1 = some r → gW p l e rm_X12_number s m args below meth c D A 4 (MQ below (QM D (tyL cB cI cJ cZ) (some (.int r.1)) (wX12 o cB cI cJ cZ s_o) (wX12 o cB cI cJ cZ r.2) s.heap.size) args s 0 0 A) 0 0 (wX12 o cB cI cJ cZ zs_o) [(0, .ref (o 0))] 26 [.int k1, .ref (o 0)] := by
    intro zs_o k1 hf
    rw [F_X12_number_b26] at hf
    refine ob hf (fun q_1 hq_1 hf => ?_)
    refine g_callVFv cx lk_RX12_114 (c_X12_wants l D cB cI cJ cZ o zs_o k1 q_1 hq_1) rfl (ci := 10) (q1 := 0) rfl rfl rfl (Nat.le_of_ble_eq_true rfl) ⟨rfl, rfl, Nat.le_of_ble_eq_true rfl, Nat.le_of_ble_eq_true rfl⟩ dX12_number_26 ?_
    refine g_aln cx 0 dX12_number_29 rfl ?_
    refine ob hf (fun q_2 hq_2 hf => ?_)
    refine g_callVFi cx lk_RX12_110 (c_X12_isWell l D cB cI cJ cZ o q_1 q_2 hq_2) rfl (ci := 10) (q1 := 0) rfl rfl rfl (Nat.le_of_ble_eq_true rfl) ⟨rfl, rfl, Nat.le_of_ble_eq_true rfl, Nat.le_of_ble_eq_true rfl⟩ dX12_number_30 ?_
    refine g_if_ne (tgt := 38) cx hf dX12_number_33 rfl (fun hf => ?_) (fun hf => ?_)
    · refine g_aln cx 0 dX12_number_38 rfl ?_
      refine mg_value cx dX12_number_39 ?_
      refine g_isn cx (L2 := fun v3_3 => [(3, .int v3_3), (0, .ref (o 0))]) hf dX12_number_42 (Nat.le_of_ble_eq_true rfl) (fun _ => rfl) (fun v3_3 hf => ?_)
      refine g_aln cx 1 dX12_number_43 rfl ?_
      refine ob hf (fun q_4 hq_4 hf => ?_)
      refine g_callVFv cx lk_RX12_118 (c_X12_advances l D cB cI cJ cZ o q_1 q_4 hq_4) rfl (ci := 10) (q1 := 0) rfl rfl rfl (Nat.le_of_ble_eq_true rfl) ⟨rfl, rfl, Nat.le_of_ble_eq_true rfl, Nat.le_of_ble_eq_true rfl⟩ dX12_number_44 ?_
      refine g_iln cx 0 dX12_number_47 rfl ?_
      exact g_iret (ovf := fun (r : Int32 × SM) => (some (.int r.1))) (wf := fun (r : Int32 × SM) => (wX12 o cB cI cJ cZ r.2)) cx hA hr hf rfl rfl dX12_number_48
    · refine g_ic cx dX12_number_36 k_ic0 ?_
      exact g_iret (ovf := fun (r : Int32 × SM) => (some (.int r.1))) (wf := fun (r : Int32 × SM) => (wX12 o cB cI cJ cZ r.2)) cx hA hr hf rfl rfl dX12_number_37
  have h25 : ∀ (zs_o : SM), F_X12_number_b25 x1 x2 zs_o = some r → gW p l e rm_X12_number s m args below meth c D A 4 (MQ below (QM D (tyL cB cI cJ cZ) (some (.int r.1)) (wX12 o cB cI cJ cZ s_o) (wX12 o cB cI cJ cZ r.2) s.heap.size) args s 0 0 A) 0 0 (wX12 o cB cI cJ cZ zs_o) [(0, .ref (o 0))] 25 [.ref (o 0)] := by
    intro zs_o hf
    rw [F_X12_number_b25] at hf
    refine g_ic cx dX12_number_25 k_ic0 ?_
    exact h26 _ _ hf
  rw [F_X12_number] at hf
  refine g_aln cx 0 dX12_number_0 rfl ?_
  refine g_aln cx 0 dX12_number_1 rfl ?_
  refine mg_token cx dX12_number_2 ?_
  refine g_ic cx dX12_number_5 k_ic2 ?_
  refine g_ic_ne (tgt := 25) cx hf dX12_number_6 rfl (fun hf => ?_) (fun hf => ?_)
  · refine g_sub [0] rfl ?_
    exact h25 _ hf
  · refine g_aln cx 0 dX12_number_9 rfl ?_
    refine mg_value cx dX12_number_10 ?_
    refine g_iln cx 1 dX12_number_13 rfl ?_
    refine g_iln cx 2 dX12_number_14 rfl ?_
    refine ob hf (fun q_5 hq_5 hf => ?_)
    refine g_callSiR cx lk_RX12_82 (c_X12_in l D cB cI cJ cZ (mI s_o 7) x1 x2 q_5 hq_5) rfl [] rfl rfl rfl (Nat.le_of_ble_eq_true rfl) ⟨rfl, rfl, Nat.le_of_ble_eq_true rfl, Nat.le_of_ble_eq_true rfl⟩ dX12_number_15 ?_
    refine g_if_eq (tgt := 25) cx hf dX12_number_18 rfl (fun hf => ?_) (fun hf => ?_)
    · refine g_sub [0] rfl ?_
      exact h25 _ hf
    · refine g_ic cx dX12_number_21 k_ic1 ?_
      refine g_goto (tgt := 26) cx dX12_number_22 rfl ?_
      refine g_sub [0] rfl ?_
      exact h26 _ _ hf
def tX12_says_7 : List Nat := 0 :: 4 :: 3 :: 172 :: []
def tX12_says_6 : List Nat := 42 :: 180 :: 0 :: 98 :: 7 :: 96 :: 182 :: 0 :: 94 :: 21 :: 5 :: 160 :: 0 :: 7 :: 4 :: 167 :: tX12_says_7
def tX12_says_5 : List Nat := 96 :: 182 :: 0 :: 94 :: 21 :: 4 :: 160 :: 0 :: 28 :: 21 :: 6 :: 7 :: 159 :: 0 :: 18 :: 42 :: tX12_says_6
def tX12_says_4 : List Nat := 98 :: 5 :: 96 :: 182 :: 0 :: 94 :: 29 :: 160 :: 0 :: 43 :: 42 :: 42 :: 180 :: 0 :: 98 :: 6 :: tX12_says_5
def tX12_says_3 : List Nat := 180 :: 0 :: 98 :: 4 :: 96 :: 182 :: 0 :: 94 :: 28 :: 160 :: 0 :: 57 :: 42 :: 42 :: 180 :: 0 :: tX12_says_4
def tX12_says_2 : List Nat := 0 :: 83 :: 42 :: 42 :: 180 :: 0 :: 98 :: 182 :: 0 :: 94 :: 27 :: 160 :: 0 :: 71 :: 42 :: 42 :: tX12_says_3
def tX12_says_1 : List Nat := 4 :: 160 :: 0 :: 97 :: 42 :: 180 :: 0 :: 91 :: 42 :: 180 :: 0 :: 98 :: 100 :: 21 :: 6 :: 160 :: tX12_says_2
def tX12_says_0 : List Nat := 21 :: 5 :: 158 :: 0 :: 7 :: 8 :: 167 :: 0 :: 4 :: 7 :: 54 :: 6 :: 42 :: 180 :: 0 :: 101 :: tX12_says_1
theorem tX12_saysf_0 : (cX12_says.data.toList.map UInt8.toNat).drop 0 = tX12_says_0 := by decide +kernel
theorem tX12_saysf_1 : (cX12_says.data.toList.map UInt8.toNat).drop 16 = tX12_says_1 := fd_next (k := 0) tX12_saysf_0 rfl
theorem tX12_saysf_2 : (cX12_says.data.toList.map UInt8.toNat).drop 32 = tX12_says_2 := fd_next (k := 16) tX12_saysf_1 rfl
theorem tX12_saysf_3 : (cX12_says.data.toList.map UInt8.toNat).drop 48 = tX12_says_3 := fd_next (k := 32) tX12_saysf_2 rfl
theorem tX12_saysf_4 : (cX12_says.data.toList.map UInt8.toNat).drop 64 = tX12_says_4 := fd_next (k := 48) tX12_saysf_3 rfl
theorem tX12_saysf_5 : (cX12_says.data.toList.map UInt8.toNat).drop 80 = tX12_says_5 := fd_next (k := 64) tX12_saysf_4 rfl
theorem tX12_saysf_6 : (cX12_says.data.toList.map UInt8.toNat).drop 96 = tX12_says_6 := fd_next (k := 80) tX12_saysf_5 rfl
theorem tX12_saysf_7 : (cX12_says.data.toList.map UInt8.toNat).drop 112 = tX12_says_7 := fd_next (k := 96) tX12_saysf_6 rfl
theorem dX12_says_0 : decode cX12_says 0 = .ok (.iload 5, 2) := dk_21 (fdB_of (k := 0) tX12_saysf_0 0 21 rfl) (fdB_of (k := 0) tX12_saysf_0 1 5 rfl)
theorem dX12_says_2 : decode cX12_says 2 = .ok (.ifCond .le 7, 3) := dk_158 (fdB_of (k := 0) tX12_saysf_0 2 158 rfl) (fdB_of (k := 0) tX12_saysf_0 3 0 rfl) (fdB_of (k := 0) tX12_saysf_0 4 7 rfl) (by decide +kernel)
theorem dX12_says_5 : decode cX12_says 5 = .ok (.iconst 5, 1) := dk_8 (fdB_of (k := 0) tX12_saysf_0 5 8 rfl)
theorem dX12_says_6 : decode cX12_says 6 = .ok (.goto 4, 3) := dk_167 (fdB_of (k := 0) tX12_saysf_0 6 167 rfl) (fdB_of (k := 0) tX12_saysf_0 7 0 rfl) (fdB_of (k := 0) tX12_saysf_0 8 4 rfl) (by decide +kernel)
theorem dX12_says_9 : decode cX12_says 9 = .ok (.iconst 4, 1) := dk_7 (fdB_of (k := 0) tX12_saysf_0 9 7 rfl)
theorem dX12_says_10 : decode cX12_says 10 = .ok (.istore 6, 2) := dk_54 (fdB_of (k := 0) tX12_saysf_0 10 54 rfl) (fdB_of (k := 0) tX12_saysf_0 11 6 rfl)
theorem dX12_says_12 : decode cX12_says 12 = .ok (.aload_n 0, 1) := dk_42 (fdB_of (k := 0) tX12_saysf_0 12 42 rfl)
theorem dX12_says_13 : decode cX12_says 13 = .ok (.getfield 101, 3) := dk_180 (fdB_of (k := 0) tX12_saysf_0 13 180 rfl) (fdB_of (k := 0) tX12_saysf_0 14 0 rfl) (fdB_of (k := 0) tX12_saysf_0 15 101 rfl)
theorem dX12_says_16 : decode cX12_says 16 = .ok (.iconst 1, 1) := dk_4 (fdB_of (k := 16) tX12_saysf_1 0 4 rfl)
theorem dX12_says_17 : decode cX12_says 17 = .ok (.if_icmp .ne 97, 3) := dk_160 (fdB_of (k := 16) tX12_saysf_1 1 160 rfl) (fdB_of (k := 16) tX12_saysf_1 2 0 rfl) (fdB_of (k := 16) tX12_saysf_1 3 97 rfl) (by decide +kernel)
theorem dX12_says_20 : decode cX12_says 20 = .ok (.aload_n 0, 1) := dk_42 (fdB_of (k := 16) tX12_saysf_1 4 42 rfl)
theorem dX12_says_21 : decode cX12_says 21 = .ok (.getfield 91, 3) := dk_180 (fdB_of (k := 16) tX12_saysf_1 5 180 rfl) (fdB_of (k := 16) tX12_saysf_1 6 0 rfl) (fdB_of (k := 16) tX12_saysf_1 7 91 rfl)
theorem dX12_says_24 : decode cX12_says 24 = .ok (.aload_n 0, 1) := dk_42 (fdB_of (k := 16) tX12_saysf_1 8 42 rfl)
theorem dX12_says_25 : decode cX12_says 25 = .ok (.getfield 98, 3) := dk_180 (fdB_of (k := 16) tX12_saysf_1 9 180 rfl) (fdB_of (k := 16) tX12_saysf_1 10 0 rfl) (fdB_of (k := 16) tX12_saysf_1 11 98 rfl)
theorem dX12_says_28 : decode cX12_says 28 = .ok (.isub, 1) := dk_100 (fdB_of (k := 16) tX12_saysf_1 12 100 rfl)
theorem dX12_says_29 : decode cX12_says 29 = .ok (.iload 6, 2) := dk_21 (fdB_of (k := 16) tX12_saysf_1 13 21 rfl) (fdB_of (k := 16) tX12_saysf_1 14 6 rfl)
theorem dX12_says_31 : decode cX12_says 31 = .ok (.if_icmp .ne 83, 3) := dk_160 (fdB_of (k := 16) tX12_saysf_1 15 160 rfl) (fdB_of (k := 32) tX12_saysf_2 0 0 rfl) (fdB_of (k := 32) tX12_saysf_2 1 83 rfl) (by decide +kernel)
theorem dX12_says_34 : decode cX12_says 34 = .ok (.aload_n 0, 1) := dk_42 (fdB_of (k := 32) tX12_saysf_2 2 42 rfl)
theorem dX12_says_35 : decode cX12_says 35 = .ok (.aload_n 0, 1) := dk_42 (fdB_of (k := 32) tX12_saysf_2 3 42 rfl)
theorem dX12_says_36 : decode cX12_says 36 = .ok (.getfield 98, 3) := dk_180 (fdB_of (k := 32) tX12_saysf_2 4 180 rfl) (fdB_of (k := 32) tX12_saysf_2 5 0 rfl) (fdB_of (k := 32) tX12_saysf_2 6 98 rfl)
theorem dX12_says_39 : decode cX12_says 39 = .ok (.invokevirtual 94, 3) := dk_182 (fdB_of (k := 32) tX12_saysf_2 7 182 rfl) (fdB_of (k := 32) tX12_saysf_2 8 0 rfl) (fdB_of (k := 32) tX12_saysf_2 9 94 rfl)
theorem dX12_says_42 : decode cX12_says 42 = .ok (.iload_n 1, 1) := dk_27 (fdB_of (k := 32) tX12_saysf_2 10 27 rfl)
theorem dX12_says_43 : decode cX12_says 43 = .ok (.if_icmp .ne 71, 3) := dk_160 (fdB_of (k := 32) tX12_saysf_2 11 160 rfl) (fdB_of (k := 32) tX12_saysf_2 12 0 rfl) (fdB_of (k := 32) tX12_saysf_2 13 71 rfl) (by decide +kernel)
theorem dX12_says_46 : decode cX12_says 46 = .ok (.aload_n 0, 1) := dk_42 (fdB_of (k := 32) tX12_saysf_2 14 42 rfl)
theorem dX12_says_47 : decode cX12_says 47 = .ok (.aload_n 0, 1) := dk_42 (fdB_of (k := 32) tX12_saysf_2 15 42 rfl)
theorem dX12_says_48 : decode cX12_says 48 = .ok (.getfield 98, 3) := dk_180 (fdB_of (k := 48) tX12_saysf_3 0 180 rfl) (fdB_of (k := 48) tX12_saysf_3 1 0 rfl) (fdB_of (k := 48) tX12_saysf_3 2 98 rfl)
theorem dX12_says_51 : decode cX12_says 51 = .ok (.iconst 1, 1) := dk_4 (fdB_of (k := 48) tX12_saysf_3 3 4 rfl)
theorem dX12_says_52 : decode cX12_says 52 = .ok (.iadd, 1) := dk_96 (fdB_of (k := 48) tX12_saysf_3 4 96 rfl)
theorem dX12_says_53 : decode cX12_says 53 = .ok (.invokevirtual 94, 3) := dk_182 (fdB_of (k := 48) tX12_saysf_3 5 182 rfl) (fdB_of (k := 48) tX12_saysf_3 6 0 rfl) (fdB_of (k := 48) tX12_saysf_3 7 94 rfl)
theorem dX12_says_56 : decode cX12_says 56 = .ok (.iload_n 2, 1) := dk_28 (fdB_of (k := 48) tX12_saysf_3 8 28 rfl)
theorem dX12_says_57 : decode cX12_says 57 = .ok (.if_icmp .ne 57, 3) := dk_160 (fdB_of (k := 48) tX12_saysf_3 9 160 rfl) (fdB_of (k := 48) tX12_saysf_3 10 0 rfl) (fdB_of (k := 48) tX12_saysf_3 11 57 rfl) (by decide +kernel)
theorem dX12_says_60 : decode cX12_says 60 = .ok (.aload_n 0, 1) := dk_42 (fdB_of (k := 48) tX12_saysf_3 12 42 rfl)
theorem dX12_says_61 : decode cX12_says 61 = .ok (.aload_n 0, 1) := dk_42 (fdB_of (k := 48) tX12_saysf_3 13 42 rfl)
theorem dX12_says_62 : decode cX12_says 62 = .ok (.getfield 98, 3) := dk_180 (fdB_of (k := 48) tX12_saysf_3 14 180 rfl) (fdB_of (k := 48) tX12_saysf_3 15 0 rfl) (fdB_of (k := 64) tX12_saysf_4 0 98 rfl)
theorem dX12_says_65 : decode cX12_says 65 = .ok (.iconst 2, 1) := dk_5 (fdB_of (k := 64) tX12_saysf_4 1 5 rfl)
theorem dX12_says_66 : decode cX12_says 66 = .ok (.iadd, 1) := dk_96 (fdB_of (k := 64) tX12_saysf_4 2 96 rfl)
theorem dX12_says_67 : decode cX12_says 67 = .ok (.invokevirtual 94, 3) := dk_182 (fdB_of (k := 64) tX12_saysf_4 3 182 rfl) (fdB_of (k := 64) tX12_saysf_4 4 0 rfl) (fdB_of (k := 64) tX12_saysf_4 5 94 rfl)
theorem dX12_says_70 : decode cX12_says 70 = .ok (.iload_n 3, 1) := dk_29 (fdB_of (k := 64) tX12_saysf_4 6 29 rfl)
theorem dX12_says_71 : decode cX12_says 71 = .ok (.if_icmp .ne 43, 3) := dk_160 (fdB_of (k := 64) tX12_saysf_4 7 160 rfl) (fdB_of (k := 64) tX12_saysf_4 8 0 rfl) (fdB_of (k := 64) tX12_saysf_4 9 43 rfl) (by decide +kernel)
theorem dX12_says_74 : decode cX12_says 74 = .ok (.aload_n 0, 1) := dk_42 (fdB_of (k := 64) tX12_saysf_4 10 42 rfl)
theorem dX12_says_75 : decode cX12_says 75 = .ok (.aload_n 0, 1) := dk_42 (fdB_of (k := 64) tX12_saysf_4 11 42 rfl)
theorem dX12_says_76 : decode cX12_says 76 = .ok (.getfield 98, 3) := dk_180 (fdB_of (k := 64) tX12_saysf_4 12 180 rfl) (fdB_of (k := 64) tX12_saysf_4 13 0 rfl) (fdB_of (k := 64) tX12_saysf_4 14 98 rfl)
theorem dX12_says_79 : decode cX12_says 79 = .ok (.iconst 3, 1) := dk_6 (fdB_of (k := 64) tX12_saysf_4 15 6 rfl)
theorem dX12_says_80 : decode cX12_says 80 = .ok (.iadd, 1) := dk_96 (fdB_of (k := 80) tX12_saysf_5 0 96 rfl)
theorem dX12_says_81 : decode cX12_says 81 = .ok (.invokevirtual 94, 3) := dk_182 (fdB_of (k := 80) tX12_saysf_5 1 182 rfl) (fdB_of (k := 80) tX12_saysf_5 2 0 rfl) (fdB_of (k := 80) tX12_saysf_5 3 94 rfl)
theorem dX12_says_84 : decode cX12_says 84 = .ok (.iload 4, 2) := dk_21 (fdB_of (k := 80) tX12_saysf_5 4 21 rfl) (fdB_of (k := 80) tX12_saysf_5 5 4 rfl)
theorem dX12_says_86 : decode cX12_says 86 = .ok (.if_icmp .ne 28, 3) := dk_160 (fdB_of (k := 80) tX12_saysf_5 6 160 rfl) (fdB_of (k := 80) tX12_saysf_5 7 0 rfl) (fdB_of (k := 80) tX12_saysf_5 8 28 rfl) (by decide +kernel)
theorem dX12_says_89 : decode cX12_says 89 = .ok (.iload 6, 2) := dk_21 (fdB_of (k := 80) tX12_saysf_5 9 21 rfl) (fdB_of (k := 80) tX12_saysf_5 10 6 rfl)
theorem dX12_says_91 : decode cX12_says 91 = .ok (.iconst 4, 1) := dk_7 (fdB_of (k := 80) tX12_saysf_5 11 7 rfl)
theorem dX12_says_92 : decode cX12_says 92 = .ok (.if_icmp .eq 18, 3) := dk_159 (fdB_of (k := 80) tX12_saysf_5 12 159 rfl) (fdB_of (k := 80) tX12_saysf_5 13 0 rfl) (fdB_of (k := 80) tX12_saysf_5 14 18 rfl) (by decide +kernel)
theorem dX12_says_95 : decode cX12_says 95 = .ok (.aload_n 0, 1) := dk_42 (fdB_of (k := 80) tX12_saysf_5 15 42 rfl)
theorem dX12_says_96 : decode cX12_says 96 = .ok (.aload_n 0, 1) := dk_42 (fdB_of (k := 96) tX12_saysf_6 0 42 rfl)
theorem dX12_says_97 : decode cX12_says 97 = .ok (.getfield 98, 3) := dk_180 (fdB_of (k := 96) tX12_saysf_6 1 180 rfl) (fdB_of (k := 96) tX12_saysf_6 2 0 rfl) (fdB_of (k := 96) tX12_saysf_6 3 98 rfl)
theorem dX12_says_100 : decode cX12_says 100 = .ok (.iconst 4, 1) := dk_7 (fdB_of (k := 96) tX12_saysf_6 4 7 rfl)
theorem dX12_says_101 : decode cX12_says 101 = .ok (.iadd, 1) := dk_96 (fdB_of (k := 96) tX12_saysf_6 5 96 rfl)
theorem dX12_says_102 : decode cX12_says 102 = .ok (.invokevirtual 94, 3) := dk_182 (fdB_of (k := 96) tX12_saysf_6 6 182 rfl) (fdB_of (k := 96) tX12_saysf_6 7 0 rfl) (fdB_of (k := 96) tX12_saysf_6 8 94 rfl)
theorem dX12_says_105 : decode cX12_says 105 = .ok (.iload 5, 2) := dk_21 (fdB_of (k := 96) tX12_saysf_6 9 21 rfl) (fdB_of (k := 96) tX12_saysf_6 10 5 rfl)
theorem dX12_says_107 : decode cX12_says 107 = .ok (.if_icmp .ne 7, 3) := dk_160 (fdB_of (k := 96) tX12_saysf_6 11 160 rfl) (fdB_of (k := 96) tX12_saysf_6 12 0 rfl) (fdB_of (k := 96) tX12_saysf_6 13 7 rfl) (by decide +kernel)
theorem dX12_says_110 : decode cX12_says 110 = .ok (.iconst 1, 1) := dk_4 (fdB_of (k := 96) tX12_saysf_6 14 4 rfl)
theorem dX12_says_111 : decode cX12_says 111 = .ok (.goto 4, 3) := dk_167 (fdB_of (k := 96) tX12_saysf_6 15 167 rfl) (fdB_of (k := 112) tX12_saysf_7 0 0 rfl) (fdB_of (k := 112) tX12_saysf_7 1 4 rfl) (by decide +kernel)
theorem dX12_says_114 : decode cX12_says 114 = .ok (.iconst 0, 1) := dk_3 (fdB_of (k := 112) tX12_saysf_7 2 3 rfl)
theorem dX12_says_115 : decode cX12_says 115 = .ok (.ireturn, 1) := dk_172 (fdB_of (k := 112) tX12_saysf_7 3 172 rfl)



def F_X12_says_b10 (s_o : SM) (x1 : Int32) (x2 : Int32) (x3 : Int32) (x4 : Int32) (x5 : Int32) (k0 : Int32) : Option (Int32) := nm k0 fun v6_1 => (if (mI s_o 5) = 1 then (if ((mI s_o 4) - (mI s_o 6)) = v6_1 then (F_X12_byteAt s_o (mI s_o 6)).bind fun q_2 => (if q_2 = x1 then (F_X12_byteAt s_o ((mI s_o 6) + 1)).bind fun q_3 => (if q_3 = x2 then (F_X12_byteAt s_o ((mI s_o 6) + 2)).bind fun q_4 => (if q_4 = x3 then (F_X12_byteAt s_o ((mI s_o 6) + 3)).bind fun q_5 => (if q_5 = x4 then (if v6_1 = 4 then some (1) else (F_X12_byteAt s_o ((mI s_o 6) + 4)).bind fun q_6 => (if q_6 = x5 then some (1) else some (0))) else some (0)) else some (0)) else some (0)) else some (0)) else some (0)) else some (0))
def F_X12_says (s_o : SM) (x1 : Int32) (x2 : Int32) (x3 : Int32) (x4 : Int32) (x5 : Int32) : Option (Int32) := (if x5 ≤ 0 then F_X12_says_b10 s_o x1 x2 x3 x4 x5 4 else F_X12_says_b10 s_o x1 x2 x3 x4 x5 5)

abbrev rm_X12_says : Room := { frames := 1, cells := 0, slots := 0, locals := 21 }
set_option maxHeartbeats 4000000 in
set_option maxRecDepth 100000 in
theorem c_X12_says (l : Launch) (D : gG) (cB cI cJ cZ : ClassId) (o : Nat → Nat) (s_o : SM) (x1 : Int32) (x2 : Int32) (x3 : Int32) (x4 : Int32) (x5 : Int32) (r : Int32) (hf : F_X12_says s_o x1 x2 x3 x4 x5 = some r) : gM l D (tyL cB cI cJ cZ) yX12_says cX12_says 7 (some .boolean) rm_X12_says [.ref (o 0), .int x1, .int x2, .int x3, .int x4, .int x5] (wX12 o cB cI cJ cZ s_o) (some (.int r)) (wX12 o cB cI cJ cZ s_o) := by
  refine met_of (by decide) (Nat.le_of_ble_eq_true rfl) ?_
  intro p e s m args below meth c A cx hr hA
  show gW p l e rm_X12_says s m args below meth c D A 7 _ 0 0 _ [(0, .ref (o 0)), (1, .int x1), (2, .int x2), (3, .int x3), (4, .int x4), (5, .int x5)] 0 []
  have h10 : ∀ (k0 : Int32), F_X12_says_b10 s_o x1 x2 x3 x4 x5 k0 = some r → gW p l e rm_X12_says s m args below meth c D A 7 (MQ below (QM D (tyL cB cI cJ cZ) (some (.int r)) (wX12 o cB cI cJ cZ s_o) (wX12 o cB cI cJ cZ s_o) s.heap.size) args s 0 0 A) 0 0 (wX12 o cB cI cJ cZ s_o) [(0, .ref (o 0)), (1, .int x1), (2, .int x2), (3, .int x3), (4, .int x4), (5, .int x5)] 10 [.int k0] := by
    intro k0 hf
    rw [F_X12_says_b10] at hf
    refine g_is cx (L2 := fun v6_1 => [(6, .int v6_1), (0, .ref (o 0)), (1, .int x1), (2, .int x2), (3, .int x3), (4, .int x4), (5, .int x5)]) hf dX12_says_10 (Nat.le_of_ble_eq_true rfl) (fun _ => rfl) (fun v6_1 hf => ?_)
    refine g_aln cx 1 dX12_says_12 rfl ?_
    refine mg_token cx dX12_says_13 ?_
    refine g_ic cx dX12_says_16 k_ic1 ?_
    refine g_ic_ne (tgt := 114) cx hf dX12_says_17 rfl (fun hf => ?_) (fun hf => ?_)
    · refine g_ic cx dX12_says_114 k_ic0 ?_
      exact g_zret (ovf := fun (r : Int32) => (some (.int r))) (wf := fun (r : Int32) => (wX12 o cB cI cJ cZ s_o)) cx hA hr rfl hf rfl rfl dX12_says_115
    · refine g_aln cx 1 dX12_says_20 rfl ?_
      refine mg_next cx dX12_says_21 ?_
      refine g_aln cx 1 dX12_says_24 rfl ?_
      refine mg_place cx dX12_says_25 ?_
      refine g_isub cx dX12_says_28 ?_
      refine g_il cx 0 dX12_says_29 rfl ?_
      refine g_ic_ne (tgt := 114) cx hf dX12_says_31 rfl (fun hf => ?_) (fun hf => ?_)
      · refine g_ic cx dX12_says_114 k_ic0 ?_
        exact g_zret (ovf := fun (r : Int32) => (some (.int r))) (wf := fun (r : Int32) => (wX12 o cB cI cJ cZ s_o)) cx hA hr rfl hf rfl rfl dX12_says_115
      · refine g_aln cx 1 dX12_says_34 rfl ?_
        refine g_aln cx 1 dX12_says_35 rfl ?_
        refine mg_place cx dX12_says_36 ?_
        refine ob hf (fun q_2 hq_2 hf => ?_)
        refine g_callVFi cx lk_RX12_94 (c_X12_byteAt l D cB cI cJ cZ o s_o (mI s_o 6) q_2 hq_2) rfl (ci := 10) (q1 := 0) rfl rfl rfl (Nat.le_of_ble_eq_true rfl) ⟨rfl, rfl, Nat.le_of_ble_eq_true rfl, Nat.le_of_ble_eq_true rfl⟩ dX12_says_39 ?_
        refine g_iln cx 2 dX12_says_42 rfl ?_
        refine g_ic_ne (tgt := 114) cx hf dX12_says_43 rfl (fun hf => ?_) (fun hf => ?_)
        · refine g_ic cx dX12_says_114 k_ic0 ?_
          exact g_zret (ovf := fun (r : Int32) => (some (.int r))) (wf := fun (r : Int32) => (wX12 o cB cI cJ cZ s_o)) cx hA hr rfl hf rfl rfl dX12_says_115
        · refine g_aln cx 1 dX12_says_46 rfl ?_
          refine g_aln cx 1 dX12_says_47 rfl ?_
          refine mg_place cx dX12_says_48 ?_
          refine g_ic cx dX12_says_51 k_ic1 ?_
          refine g_iadd cx dX12_says_52 ?_
          refine ob hf (fun q_3 hq_3 hf => ?_)
          refine g_callVFi cx lk_RX12_94 (c_X12_byteAt l D cB cI cJ cZ o s_o ((mI s_o 6) + 1) q_3 hq_3) rfl (ci := 10) (q1 := 0) rfl rfl rfl (Nat.le_of_ble_eq_true rfl) ⟨rfl, rfl, Nat.le_of_ble_eq_true rfl, Nat.le_of_ble_eq_true rfl⟩ dX12_says_53 ?_
          refine g_iln cx 3 dX12_says_56 rfl ?_
          refine g_ic_ne (tgt := 114) cx hf dX12_says_57 rfl (fun hf => ?_) (fun hf => ?_)
          · refine g_ic cx dX12_says_114 k_ic0 ?_
            exact g_zret (ovf := fun (r : Int32) => (some (.int r))) (wf := fun (r : Int32) => (wX12 o cB cI cJ cZ s_o)) cx hA hr rfl hf rfl rfl dX12_says_115
          · refine g_aln cx 1 dX12_says_60 rfl ?_
            refine g_aln cx 1 dX12_says_61 rfl ?_
            refine mg_place cx dX12_says_62 ?_
            refine g_ic cx dX12_says_65 k_ic2 ?_
            refine g_iadd cx dX12_says_66 ?_
            refine ob hf (fun q_4 hq_4 hf => ?_)
            refine g_callVFi cx lk_RX12_94 (c_X12_byteAt l D cB cI cJ cZ o s_o ((mI s_o 6) + 2) q_4 hq_4) rfl (ci := 10) (q1 := 0) rfl rfl rfl (Nat.le_of_ble_eq_true rfl) ⟨rfl, rfl, Nat.le_of_ble_eq_true rfl, Nat.le_of_ble_eq_true rfl⟩ dX12_says_67 ?_
            refine g_iln cx 4 dX12_says_70 rfl ?_
            refine g_ic_ne (tgt := 114) cx hf dX12_says_71 rfl (fun hf => ?_) (fun hf => ?_)
            · refine g_ic cx dX12_says_114 k_ic0 ?_
              exact g_zret (ovf := fun (r : Int32) => (some (.int r))) (wf := fun (r : Int32) => (wX12 o cB cI cJ cZ s_o)) cx hA hr rfl hf rfl rfl dX12_says_115
            · refine g_aln cx 1 dX12_says_74 rfl ?_
              refine g_aln cx 1 dX12_says_75 rfl ?_
              refine mg_place cx dX12_says_76 ?_
              refine g_ic cx dX12_says_79 k_ic3 ?_
              refine g_iadd cx dX12_says_80 ?_
              refine ob hf (fun q_5 hq_5 hf => ?_)
              refine g_callVFi cx lk_RX12_94 (c_X12_byteAt l D cB cI cJ cZ o s_o ((mI s_o 6) + 3) q_5 hq_5) rfl (ci := 10) (q1 := 0) rfl rfl rfl (Nat.le_of_ble_eq_true rfl) ⟨rfl, rfl, Nat.le_of_ble_eq_true rfl, Nat.le_of_ble_eq_true rfl⟩ dX12_says_81 ?_
              refine g_il cx 5 dX12_says_84 rfl ?_
              refine g_ic_ne (tgt := 114) cx hf dX12_says_86 rfl (fun hf => ?_) (fun hf => ?_)
              · refine g_ic cx dX12_says_114 k_ic0 ?_
                exact g_zret (ovf := fun (r : Int32) => (some (.int r))) (wf := fun (r : Int32) => (wX12 o cB cI cJ cZ s_o)) cx hA hr rfl hf rfl rfl dX12_says_115
              · refine g_il cx 0 dX12_says_89 rfl ?_
                refine g_ic cx dX12_says_91 k_ic4 ?_
                refine g_ic_eq (tgt := 110) cx hf dX12_says_92 rfl (fun hf => ?_) (fun hf => ?_)
                · refine g_ic cx dX12_says_110 k_ic1 ?_
                  refine g_goto (tgt := 115) cx dX12_says_111 rfl ?_
                  exact g_zret (ovf := fun (r : Int32) => (some (.int r))) (wf := fun (r : Int32) => (wX12 o cB cI cJ cZ s_o)) cx hA hr rfl hf rfl rfl dX12_says_115
                · refine g_aln cx 1 dX12_says_95 rfl ?_
                  refine g_aln cx 1 dX12_says_96 rfl ?_
                  refine mg_place cx dX12_says_97 ?_
                  refine g_ic cx dX12_says_100 k_ic4 ?_
                  refine g_iadd cx dX12_says_101 ?_
                  refine ob hf (fun q_6 hq_6 hf => ?_)
                  refine g_callVFi cx lk_RX12_94 (c_X12_byteAt l D cB cI cJ cZ o s_o ((mI s_o 6) + 4) q_6 hq_6) rfl (ci := 10) (q1 := 0) rfl rfl rfl (Nat.le_of_ble_eq_true rfl) ⟨rfl, rfl, Nat.le_of_ble_eq_true rfl, Nat.le_of_ble_eq_true rfl⟩ dX12_says_102 ?_
                  refine g_il cx 6 dX12_says_105 rfl ?_
                  refine g_ic_ne (tgt := 114) cx hf dX12_says_107 rfl (fun hf => ?_) (fun hf => ?_)
                  · refine g_ic cx dX12_says_114 k_ic0 ?_
                    exact g_zret (ovf := fun (r : Int32) => (some (.int r))) (wf := fun (r : Int32) => (wX12 o cB cI cJ cZ s_o)) cx hA hr rfl hf rfl rfl dX12_says_115
                  · refine g_ic cx dX12_says_110 k_ic1 ?_
                    refine g_goto (tgt := 115) cx dX12_says_111 rfl ?_
                    exact g_zret (ovf := fun (r : Int32) => (some (.int r))) (wf := fun (r : Int32) => (wX12 o cB cI cJ cZ s_o)) cx hA hr rfl hf rfl rfl dX12_says_115
  rw [F_X12_says] at hf
  refine g_il cx 5 dX12_says_0 rfl ?_
  refine g_if_le (tgt := 9) cx hf dX12_says_2 rfl (fun hf => ?_) (fun hf => ?_)
  · refine g_ic cx dX12_says_9 k_ic4 ?_
    exact h10 _ hf
  · refine g_ic cx dX12_says_5 k_ic5 ?_
    refine g_goto (tgt := 10) cx dX12_says_6 rfl ?_
    exact h10 _ hf
def tX12_begins_7 : List Nat := 167 :: 0 :: 5 :: 16 :: 247 :: 172 :: []
def tX12_begins_6 : List Nat := 115 :: 16 :: 116 :: 16 :: 111 :: 16 :: 99 :: 16 :: 107 :: 182 :: 0 :: 121 :: 153 :: 0 :: 7 :: 7 :: tX12_begins_7
def tX12_begins_5 : List Nat := 110 :: 16 :: 101 :: 3 :: 182 :: 0 :: 121 :: 153 :: 0 :: 7 :: 6 :: 167 :: 0 :: 26 :: 42 :: 16 :: tX12_begins_6
def tX12_begins_4 : List Nat := 27 :: 16 :: 247 :: 159 :: 0 :: 7 :: 27 :: 167 :: 0 :: 46 :: 42 :: 16 :: 108 :: 16 :: 105 :: 16 :: tX12_begins_5
def tX12_begins_3 : List Nat := 114 :: 16 :: 101 :: 182 :: 0 :: 121 :: 153 :: 0 :: 7 :: 5 :: 167 :: 0 :: 5 :: 16 :: 247 :: 60 :: tX12_begins_4
def tX12_begins_2 : List Nat := 121 :: 153 :: 0 :: 7 :: 4 :: 167 :: 0 :: 26 :: 42 :: 16 :: 109 :: 16 :: 101 :: 16 :: 116 :: 16 :: tX12_begins_3
def tX12_begins_1 : List Nat := 3 :: 167 :: 0 :: 46 :: 42 :: 16 :: 102 :: 16 :: 111 :: 16 :: 114 :: 16 :: 109 :: 3 :: 182 :: 0 :: tX12_begins_2
def tX12_begins_0 : List Nat := 42 :: 16 :: 119 :: 16 :: 111 :: 16 :: 114 :: 16 :: 100 :: 3 :: 182 :: 0 :: 121 :: 153 :: 0 :: 7 :: tX12_begins_1
theorem tX12_beginsf_0 : (cX12_begins.data.toList.map UInt8.toNat).drop 0 = tX12_begins_0 := by decide +kernel
theorem tX12_beginsf_1 : (cX12_begins.data.toList.map UInt8.toNat).drop 16 = tX12_begins_1 := fd_next (k := 0) tX12_beginsf_0 rfl
theorem tX12_beginsf_2 : (cX12_begins.data.toList.map UInt8.toNat).drop 32 = tX12_begins_2 := fd_next (k := 16) tX12_beginsf_1 rfl
theorem tX12_beginsf_3 : (cX12_begins.data.toList.map UInt8.toNat).drop 48 = tX12_begins_3 := fd_next (k := 32) tX12_beginsf_2 rfl
theorem tX12_beginsf_4 : (cX12_begins.data.toList.map UInt8.toNat).drop 64 = tX12_begins_4 := fd_next (k := 48) tX12_beginsf_3 rfl
theorem tX12_beginsf_5 : (cX12_begins.data.toList.map UInt8.toNat).drop 80 = tX12_begins_5 := fd_next (k := 64) tX12_beginsf_4 rfl
theorem tX12_beginsf_6 : (cX12_begins.data.toList.map UInt8.toNat).drop 96 = tX12_begins_6 := fd_next (k := 80) tX12_beginsf_5 rfl
theorem tX12_beginsf_7 : (cX12_begins.data.toList.map UInt8.toNat).drop 112 = tX12_begins_7 := fd_next (k := 96) tX12_beginsf_6 rfl
theorem dX12_begins_0 : decode cX12_begins 0 = .ok (.aload_n 0, 1) := dk_42 (fdB_of (k := 0) tX12_beginsf_0 0 42 rfl)
theorem dX12_begins_1 : decode cX12_begins 1 = .ok (.bipush 119, 2) := dk_16 (fdB_of (k := 0) tX12_beginsf_0 1 16 rfl) (fdB_of (k := 0) tX12_beginsf_0 2 119 rfl) (by decide +kernel)
theorem dX12_begins_3 : decode cX12_begins 3 = .ok (.bipush 111, 2) := dk_16 (fdB_of (k := 0) tX12_beginsf_0 3 16 rfl) (fdB_of (k := 0) tX12_beginsf_0 4 111 rfl) (by decide +kernel)
theorem dX12_begins_5 : decode cX12_begins 5 = .ok (.bipush 114, 2) := dk_16 (fdB_of (k := 0) tX12_beginsf_0 5 16 rfl) (fdB_of (k := 0) tX12_beginsf_0 6 114 rfl) (by decide +kernel)
theorem dX12_begins_7 : decode cX12_begins 7 = .ok (.bipush 100, 2) := dk_16 (fdB_of (k := 0) tX12_beginsf_0 7 16 rfl) (fdB_of (k := 0) tX12_beginsf_0 8 100 rfl) (by decide +kernel)
theorem dX12_begins_9 : decode cX12_begins 9 = .ok (.iconst 0, 1) := dk_3 (fdB_of (k := 0) tX12_beginsf_0 9 3 rfl)
theorem dX12_begins_10 : decode cX12_begins 10 = .ok (.invokevirtual 121, 3) := dk_182 (fdB_of (k := 0) tX12_beginsf_0 10 182 rfl) (fdB_of (k := 0) tX12_beginsf_0 11 0 rfl) (fdB_of (k := 0) tX12_beginsf_0 12 121 rfl)
theorem dX12_begins_13 : decode cX12_begins 13 = .ok (.ifCond .eq 7, 3) := dk_153 (fdB_of (k := 0) tX12_beginsf_0 13 153 rfl) (fdB_of (k := 0) tX12_beginsf_0 14 0 rfl) (fdB_of (k := 0) tX12_beginsf_0 15 7 rfl) (by decide +kernel)
theorem dX12_begins_16 : decode cX12_begins 16 = .ok (.iconst 0, 1) := dk_3 (fdB_of (k := 16) tX12_beginsf_1 0 3 rfl)
theorem dX12_begins_17 : decode cX12_begins 17 = .ok (.goto 46, 3) := dk_167 (fdB_of (k := 16) tX12_beginsf_1 1 167 rfl) (fdB_of (k := 16) tX12_beginsf_1 2 0 rfl) (fdB_of (k := 16) tX12_beginsf_1 3 46 rfl) (by decide +kernel)
theorem dX12_begins_20 : decode cX12_begins 20 = .ok (.aload_n 0, 1) := dk_42 (fdB_of (k := 16) tX12_beginsf_1 4 42 rfl)
theorem dX12_begins_21 : decode cX12_begins 21 = .ok (.bipush 102, 2) := dk_16 (fdB_of (k := 16) tX12_beginsf_1 5 16 rfl) (fdB_of (k := 16) tX12_beginsf_1 6 102 rfl) (by decide +kernel)
theorem dX12_begins_23 : decode cX12_begins 23 = .ok (.bipush 111, 2) := dk_16 (fdB_of (k := 16) tX12_beginsf_1 7 16 rfl) (fdB_of (k := 16) tX12_beginsf_1 8 111 rfl) (by decide +kernel)
theorem dX12_begins_25 : decode cX12_begins 25 = .ok (.bipush 114, 2) := dk_16 (fdB_of (k := 16) tX12_beginsf_1 9 16 rfl) (fdB_of (k := 16) tX12_beginsf_1 10 114 rfl) (by decide +kernel)
theorem dX12_begins_27 : decode cX12_begins 27 = .ok (.bipush 109, 2) := dk_16 (fdB_of (k := 16) tX12_beginsf_1 11 16 rfl) (fdB_of (k := 16) tX12_beginsf_1 12 109 rfl) (by decide +kernel)
theorem dX12_begins_29 : decode cX12_begins 29 = .ok (.iconst 0, 1) := dk_3 (fdB_of (k := 16) tX12_beginsf_1 13 3 rfl)
theorem dX12_begins_30 : decode cX12_begins 30 = .ok (.invokevirtual 121, 3) := dk_182 (fdB_of (k := 16) tX12_beginsf_1 14 182 rfl) (fdB_of (k := 16) tX12_beginsf_1 15 0 rfl) (fdB_of (k := 32) tX12_beginsf_2 0 121 rfl)
theorem dX12_begins_33 : decode cX12_begins 33 = .ok (.ifCond .eq 7, 3) := dk_153 (fdB_of (k := 32) tX12_beginsf_2 1 153 rfl) (fdB_of (k := 32) tX12_beginsf_2 2 0 rfl) (fdB_of (k := 32) tX12_beginsf_2 3 7 rfl) (by decide +kernel)
theorem dX12_begins_36 : decode cX12_begins 36 = .ok (.iconst 1, 1) := dk_4 (fdB_of (k := 32) tX12_beginsf_2 4 4 rfl)
theorem dX12_begins_37 : decode cX12_begins 37 = .ok (.goto 26, 3) := dk_167 (fdB_of (k := 32) tX12_beginsf_2 5 167 rfl) (fdB_of (k := 32) tX12_beginsf_2 6 0 rfl) (fdB_of (k := 32) tX12_beginsf_2 7 26 rfl) (by decide +kernel)
theorem dX12_begins_40 : decode cX12_begins 40 = .ok (.aload_n 0, 1) := dk_42 (fdB_of (k := 32) tX12_beginsf_2 8 42 rfl)
theorem dX12_begins_41 : decode cX12_begins 41 = .ok (.bipush 109, 2) := dk_16 (fdB_of (k := 32) tX12_beginsf_2 9 16 rfl) (fdB_of (k := 32) tX12_beginsf_2 10 109 rfl) (by decide +kernel)
theorem dX12_begins_43 : decode cX12_begins 43 = .ok (.bipush 101, 2) := dk_16 (fdB_of (k := 32) tX12_beginsf_2 11 16 rfl) (fdB_of (k := 32) tX12_beginsf_2 12 101 rfl) (by decide +kernel)
theorem dX12_begins_45 : decode cX12_begins 45 = .ok (.bipush 116, 2) := dk_16 (fdB_of (k := 32) tX12_beginsf_2 13 16 rfl) (fdB_of (k := 32) tX12_beginsf_2 14 116 rfl) (by decide +kernel)
theorem dX12_begins_47 : decode cX12_begins 47 = .ok (.bipush 114, 2) := dk_16 (fdB_of (k := 32) tX12_beginsf_2 15 16 rfl) (fdB_of (k := 48) tX12_beginsf_3 0 114 rfl) (by decide +kernel)
theorem dX12_begins_49 : decode cX12_begins 49 = .ok (.bipush 101, 2) := dk_16 (fdB_of (k := 48) tX12_beginsf_3 1 16 rfl) (fdB_of (k := 48) tX12_beginsf_3 2 101 rfl) (by decide +kernel)
theorem dX12_begins_51 : decode cX12_begins 51 = .ok (.invokevirtual 121, 3) := dk_182 (fdB_of (k := 48) tX12_beginsf_3 3 182 rfl) (fdB_of (k := 48) tX12_beginsf_3 4 0 rfl) (fdB_of (k := 48) tX12_beginsf_3 5 121 rfl)
theorem dX12_begins_54 : decode cX12_begins 54 = .ok (.ifCond .eq 7, 3) := dk_153 (fdB_of (k := 48) tX12_beginsf_3 6 153 rfl) (fdB_of (k := 48) tX12_beginsf_3 7 0 rfl) (fdB_of (k := 48) tX12_beginsf_3 8 7 rfl) (by decide +kernel)
theorem dX12_begins_57 : decode cX12_begins 57 = .ok (.iconst 2, 1) := dk_5 (fdB_of (k := 48) tX12_beginsf_3 9 5 rfl)
theorem dX12_begins_58 : decode cX12_begins 58 = .ok (.goto 5, 3) := dk_167 (fdB_of (k := 48) tX12_beginsf_3 10 167 rfl) (fdB_of (k := 48) tX12_beginsf_3 11 0 rfl) (fdB_of (k := 48) tX12_beginsf_3 12 5 rfl) (by decide +kernel)
theorem dX12_begins_61 : decode cX12_begins 61 = .ok (.bipush (-9), 2) := dk_16 (fdB_of (k := 48) tX12_beginsf_3 13 16 rfl) (fdB_of (k := 48) tX12_beginsf_3 14 247 rfl) (by decide +kernel)
theorem dX12_begins_63 : decode cX12_begins 63 = .ok (.istore_n 1, 1) := dk_60 (fdB_of (k := 48) tX12_beginsf_3 15 60 rfl)
theorem dX12_begins_64 : decode cX12_begins 64 = .ok (.iload_n 1, 1) := dk_27 (fdB_of (k := 64) tX12_beginsf_4 0 27 rfl)
theorem dX12_begins_65 : decode cX12_begins 65 = .ok (.bipush (-9), 2) := dk_16 (fdB_of (k := 64) tX12_beginsf_4 1 16 rfl) (fdB_of (k := 64) tX12_beginsf_4 2 247 rfl) (by decide +kernel)
theorem dX12_begins_67 : decode cX12_begins 67 = .ok (.if_icmp .eq 7, 3) := dk_159 (fdB_of (k := 64) tX12_beginsf_4 3 159 rfl) (fdB_of (k := 64) tX12_beginsf_4 4 0 rfl) (fdB_of (k := 64) tX12_beginsf_4 5 7 rfl) (by decide +kernel)
theorem dX12_begins_70 : decode cX12_begins 70 = .ok (.iload_n 1, 1) := dk_27 (fdB_of (k := 64) tX12_beginsf_4 6 27 rfl)
theorem dX12_begins_71 : decode cX12_begins 71 = .ok (.goto 46, 3) := dk_167 (fdB_of (k := 64) tX12_beginsf_4 7 167 rfl) (fdB_of (k := 64) tX12_beginsf_4 8 0 rfl) (fdB_of (k := 64) tX12_beginsf_4 9 46 rfl) (by decide +kernel)
theorem dX12_begins_74 : decode cX12_begins 74 = .ok (.aload_n 0, 1) := dk_42 (fdB_of (k := 64) tX12_beginsf_4 10 42 rfl)
theorem dX12_begins_75 : decode cX12_begins 75 = .ok (.bipush 108, 2) := dk_16 (fdB_of (k := 64) tX12_beginsf_4 11 16 rfl) (fdB_of (k := 64) tX12_beginsf_4 12 108 rfl) (by decide +kernel)
theorem dX12_begins_77 : decode cX12_begins 77 = .ok (.bipush 105, 2) := dk_16 (fdB_of (k := 64) tX12_beginsf_4 13 16 rfl) (fdB_of (k := 64) tX12_beginsf_4 14 105 rfl) (by decide +kernel)
theorem dX12_begins_79 : decode cX12_begins 79 = .ok (.bipush 110, 2) := dk_16 (fdB_of (k := 64) tX12_beginsf_4 15 16 rfl) (fdB_of (k := 80) tX12_beginsf_5 0 110 rfl) (by decide +kernel)
theorem dX12_begins_81 : decode cX12_begins 81 = .ok (.bipush 101, 2) := dk_16 (fdB_of (k := 80) tX12_beginsf_5 1 16 rfl) (fdB_of (k := 80) tX12_beginsf_5 2 101 rfl) (by decide +kernel)
theorem dX12_begins_83 : decode cX12_begins 83 = .ok (.iconst 0, 1) := dk_3 (fdB_of (k := 80) tX12_beginsf_5 3 3 rfl)
theorem dX12_begins_84 : decode cX12_begins 84 = .ok (.invokevirtual 121, 3) := dk_182 (fdB_of (k := 80) tX12_beginsf_5 4 182 rfl) (fdB_of (k := 80) tX12_beginsf_5 5 0 rfl) (fdB_of (k := 80) tX12_beginsf_5 6 121 rfl)
theorem dX12_begins_87 : decode cX12_begins 87 = .ok (.ifCond .eq 7, 3) := dk_153 (fdB_of (k := 80) tX12_beginsf_5 7 153 rfl) (fdB_of (k := 80) tX12_beginsf_5 8 0 rfl) (fdB_of (k := 80) tX12_beginsf_5 9 7 rfl) (by decide +kernel)
theorem dX12_begins_90 : decode cX12_begins 90 = .ok (.iconst 3, 1) := dk_6 (fdB_of (k := 80) tX12_beginsf_5 10 6 rfl)
theorem dX12_begins_91 : decode cX12_begins 91 = .ok (.goto 26, 3) := dk_167 (fdB_of (k := 80) tX12_beginsf_5 11 167 rfl) (fdB_of (k := 80) tX12_beginsf_5 12 0 rfl) (fdB_of (k := 80) tX12_beginsf_5 13 26 rfl) (by decide +kernel)
theorem dX12_begins_94 : decode cX12_begins 94 = .ok (.aload_n 0, 1) := dk_42 (fdB_of (k := 80) tX12_beginsf_5 14 42 rfl)
theorem dX12_begins_95 : decode cX12_begins 95 = .ok (.bipush 115, 2) := dk_16 (fdB_of (k := 80) tX12_beginsf_5 15 16 rfl) (fdB_of (k := 96) tX12_beginsf_6 0 115 rfl) (by decide +kernel)
theorem dX12_begins_97 : decode cX12_begins 97 = .ok (.bipush 116, 2) := dk_16 (fdB_of (k := 96) tX12_beginsf_6 1 16 rfl) (fdB_of (k := 96) tX12_beginsf_6 2 116 rfl) (by decide +kernel)
theorem dX12_begins_99 : decode cX12_begins 99 = .ok (.bipush 111, 2) := dk_16 (fdB_of (k := 96) tX12_beginsf_6 3 16 rfl) (fdB_of (k := 96) tX12_beginsf_6 4 111 rfl) (by decide +kernel)
theorem dX12_begins_101 : decode cX12_begins 101 = .ok (.bipush 99, 2) := dk_16 (fdB_of (k := 96) tX12_beginsf_6 5 16 rfl) (fdB_of (k := 96) tX12_beginsf_6 6 99 rfl) (by decide +kernel)
theorem dX12_begins_103 : decode cX12_begins 103 = .ok (.bipush 107, 2) := dk_16 (fdB_of (k := 96) tX12_beginsf_6 7 16 rfl) (fdB_of (k := 96) tX12_beginsf_6 8 107 rfl) (by decide +kernel)
theorem dX12_begins_105 : decode cX12_begins 105 = .ok (.invokevirtual 121, 3) := dk_182 (fdB_of (k := 96) tX12_beginsf_6 9 182 rfl) (fdB_of (k := 96) tX12_beginsf_6 10 0 rfl) (fdB_of (k := 96) tX12_beginsf_6 11 121 rfl)
theorem dX12_begins_108 : decode cX12_begins 108 = .ok (.ifCond .eq 7, 3) := dk_153 (fdB_of (k := 96) tX12_beginsf_6 12 153 rfl) (fdB_of (k := 96) tX12_beginsf_6 13 0 rfl) (fdB_of (k := 96) tX12_beginsf_6 14 7 rfl) (by decide +kernel)
theorem dX12_begins_111 : decode cX12_begins 111 = .ok (.iconst 4, 1) := dk_7 (fdB_of (k := 96) tX12_beginsf_6 15 7 rfl)
theorem dX12_begins_112 : decode cX12_begins 112 = .ok (.goto 5, 3) := dk_167 (fdB_of (k := 112) tX12_beginsf_7 0 167 rfl) (fdB_of (k := 112) tX12_beginsf_7 1 0 rfl) (fdB_of (k := 112) tX12_beginsf_7 2 5 rfl) (by decide +kernel)
theorem dX12_begins_115 : decode cX12_begins 115 = .ok (.bipush (-9), 2) := dk_16 (fdB_of (k := 112) tX12_beginsf_7 3 16 rfl) (fdB_of (k := 112) tX12_beginsf_7 4 247 rfl) (by decide +kernel)
theorem dX12_begins_117 : decode cX12_begins 117 = .ok (.ireturn, 1) := dk_172 (fdB_of (k := 112) tX12_beginsf_7 5 172 rfl)

theorem k_bp100 : (Int8.ofInt (100)).toInt32 = 100 := by decide
theorem k_bp101 : (Int8.ofInt (101)).toInt32 = 101 := by decide
theorem k_bp102 : (Int8.ofInt (102)).toInt32 = 102 := by decide
theorem k_bp105 : (Int8.ofInt (105)).toInt32 = 105 := by decide
theorem k_bp107 : (Int8.ofInt (107)).toInt32 = 107 := by decide
theorem k_bp108 : (Int8.ofInt (108)).toInt32 = 108 := by decide
theorem k_bp109 : (Int8.ofInt (109)).toInt32 = 109 := by decide
theorem k_bp110 : (Int8.ofInt (110)).toInt32 = 110 := by decide
theorem k_bp111 : (Int8.ofInt (111)).toInt32 = 111 := by decide
theorem k_bp114 : (Int8.ofInt (114)).toInt32 = 114 := by decide
theorem k_bp115 : (Int8.ofInt (115)).toInt32 = 115 := by decide
theorem k_bp116 : (Int8.ofInt (116)).toInt32 = 116 := by decide
theorem k_bp119 : (Int8.ofInt (119)).toInt32 = 119 := by decide
theorem q0_31 : Cond.selects RX12 yX12_says yX12_says ∈ TT := tq0 31 rfl rfl
theorem q5_131 : Cond.methodLink RX12 121 yX12_says ∈ TT := tq5 131 rfl rfl
theorem q5_133 : Cond.instanceMethod yX12_says ∈ TT := tq5 133 rfl rfl
theorem q5_134 : Cond.code yX12_says cX12_says 7 (some .boolean) ∈ TT := tq5 134 rfl rfl
theorem lk_RX12_121 : vlk RX12 121 yX12_says cX12_says 7 (some .boolean) 5 := ⟨List.forall_mem_cons.mpr ⟨q5_131, List.forall_mem_cons.mpr ⟨q5_133, List.forall_mem_cons.mpr ⟨q0_31, List.forall_mem_cons.mpr ⟨q1_12, fun _ h => absurd h List.not_mem_nil⟩⟩⟩⟩, q5_134, by decide, by decide, by decide +kernel⟩
def F_X12_begins_b63 (s_o : SM) (k0 : Int32) : Option (Int32) := nm k0 fun v1_1 => (if v1_1 = (-9) then (F_X12_says s_o 108 105 110 101 0).bind fun q_2 => (if q_2 = 0 then (F_X12_says s_o 115 116 111 99 107).bind fun q_3 => (if q_3 = 0 then some ((-9)) else some (4)) else some (3)) else some (v1_1))
def F_X12_begins (s_o : SM) : Option (Int32) := (F_X12_says s_o 119 111 114 100 0).bind fun q_4 => (if q_4 = 0 then (F_X12_says s_o 102 111 114 109 0).bind fun q_5 => (if q_5 = 0 then (F_X12_says s_o 109 101 116 114 101).bind fun q_6 => (if q_6 = 0 then F_X12_begins_b63 s_o (-9) else F_X12_begins_b63 s_o 2) else F_X12_begins_b63 s_o 1) else F_X12_begins_b63 s_o 0)

abbrev rm_X12_begins : Room := { frames := 2, cells := 0, slots := 0, locals := 47 }
set_option maxHeartbeats 4000000 in
set_option maxRecDepth 100000 in
theorem c_X12_begins (l : Launch) (D : gG) (cB cI cJ cZ : ClassId) (o : Nat → Nat) (s_o : SM) (r : Int32) (hf : F_X12_begins s_o = some r) : gM l D (tyL cB cI cJ cZ) yX12_begins cX12_begins 2 (some .int) rm_X12_begins [.ref (o 0)] (wX12 o cB cI cJ cZ s_o) (some (.int r)) (wX12 o cB cI cJ cZ s_o) := by
  refine met_of (by decide) (Nat.le_of_ble_eq_true rfl) ?_
  intro p e s m args below meth c A cx hr hA
  show gW p l e rm_X12_begins s m args below meth c D A 2 _ 0 0 _ [(0, .ref (o 0))] 0 []
  have h63 : ∀ (k0 : Int32), F_X12_begins_b63 s_o k0 = some r → gW p l e rm_X12_begins s m args below meth c D A 2 (MQ below (QM D (tyL cB cI cJ cZ) (some (.int r)) (wX12 o cB cI cJ cZ s_o) (wX12 o cB cI cJ cZ s_o) s.heap.size) args s 0 0 A) 0 0 (wX12 o cB cI cJ cZ s_o) [(0, .ref (o 0))] 63 [.int k0] := by
    intro k0 hf
    rw [F_X12_begins_b63] at hf
    refine g_isn cx (L2 := fun v1_1 => [(1, .int v1_1), (0, .ref (o 0))]) hf dX12_begins_63 (Nat.le_of_ble_eq_true rfl) (fun _ => rfl) (fun v1_1 hf => ?_)
    refine g_iln cx 0 dX12_begins_64 rfl ?_
    refine g_bp cx dX12_begins_65 k_bpm9 ?_
    refine g_ic_eq (tgt := 74) cx hf dX12_begins_67 rfl (fun hf => ?_) (fun hf => ?_)
    · refine g_aln cx 1 dX12_begins_74 rfl ?_
      refine g_bp cx dX12_begins_75 k_bp108 ?_
      refine g_bp cx dX12_begins_77 k_bp105 ?_
      refine g_bp cx dX12_begins_79 k_bp110 ?_
      refine g_bp cx dX12_begins_81 k_bp101 ?_
      refine g_ic cx dX12_begins_83 k_ic0 ?_
      refine ob hf (fun q_2 hq_2 hf => ?_)
      refine g_callVFi cx lk_RX12_121 (c_X12_says l D cB cI cJ cZ o s_o 108 105 110 101 0 q_2 hq_2) rfl (ci := 10) (q1 := 0) rfl rfl rfl (Nat.le_of_ble_eq_true rfl) ⟨rfl, rfl, Nat.le_of_ble_eq_true rfl, Nat.le_of_ble_eq_true rfl⟩ dX12_begins_84 ?_
      refine g_if_eq (tgt := 94) cx hf dX12_begins_87 rfl (fun hf => ?_) (fun hf => ?_)
      · refine g_aln cx 1 dX12_begins_94 rfl ?_
        refine g_bp cx dX12_begins_95 k_bp115 ?_
        refine g_bp cx dX12_begins_97 k_bp116 ?_
        refine g_bp cx dX12_begins_99 k_bp111 ?_
        refine g_bp cx dX12_begins_101 k_bp99 ?_
        refine g_bp cx dX12_begins_103 k_bp107 ?_
        refine ob hf (fun q_3 hq_3 hf => ?_)
        refine g_callVFi cx lk_RX12_121 (c_X12_says l D cB cI cJ cZ o s_o 115 116 111 99 107 q_3 hq_3) rfl (ci := 10) (q1 := 0) rfl rfl rfl (Nat.le_of_ble_eq_true rfl) ⟨rfl, rfl, Nat.le_of_ble_eq_true rfl, Nat.le_of_ble_eq_true rfl⟩ dX12_begins_105 ?_
        refine g_if_eq (tgt := 115) cx hf dX12_begins_108 rfl (fun hf => ?_) (fun hf => ?_)
        · refine g_bp cx dX12_begins_115 k_bpm9 ?_
          exact g_iret (ovf := fun (r : Int32) => (some (.int r))) (wf := fun (r : Int32) => (wX12 o cB cI cJ cZ s_o)) cx hA hr hf rfl rfl dX12_begins_117
        · refine g_ic cx dX12_begins_111 k_ic4 ?_
          refine g_goto (tgt := 117) cx dX12_begins_112 rfl ?_
          exact g_iret (ovf := fun (r : Int32) => (some (.int r))) (wf := fun (r : Int32) => (wX12 o cB cI cJ cZ s_o)) cx hA hr hf rfl rfl dX12_begins_117
      · refine g_ic cx dX12_begins_90 k_ic3 ?_
        refine g_goto (tgt := 117) cx dX12_begins_91 rfl ?_
        exact g_iret (ovf := fun (r : Int32) => (some (.int r))) (wf := fun (r : Int32) => (wX12 o cB cI cJ cZ s_o)) cx hA hr hf rfl rfl dX12_begins_117
    · refine g_iln cx 0 dX12_begins_70 rfl ?_
      refine g_goto (tgt := 117) cx dX12_begins_71 rfl ?_
      exact g_iret (ovf := fun (r : Int32) => (some (.int r))) (wf := fun (r : Int32) => (wX12 o cB cI cJ cZ s_o)) cx hA hr hf rfl rfl dX12_begins_117
  rw [F_X12_begins] at hf
  refine g_aln cx 0 dX12_begins_0 rfl ?_
  refine g_bp cx dX12_begins_1 k_bp119 ?_
  refine g_bp cx dX12_begins_3 k_bp111 ?_
  refine g_bp cx dX12_begins_5 k_bp114 ?_
  refine g_bp cx dX12_begins_7 k_bp100 ?_
  refine g_ic cx dX12_begins_9 k_ic0 ?_
  refine ob hf (fun q_4 hq_4 hf => ?_)
  refine g_callVFi cx lk_RX12_121 (c_X12_says l D cB cI cJ cZ o s_o 119 111 114 100 0 q_4 hq_4) rfl (ci := 10) (q1 := 0) rfl rfl rfl (Nat.le_of_ble_eq_true rfl) ⟨rfl, rfl, Nat.le_of_ble_eq_true rfl, Nat.le_of_ble_eq_true rfl⟩ dX12_begins_10 ?_
  refine g_if_eq (tgt := 20) cx hf dX12_begins_13 rfl (fun hf => ?_) (fun hf => ?_)
  · refine g_aln cx 0 dX12_begins_20 rfl ?_
    refine g_bp cx dX12_begins_21 k_bp102 ?_
    refine g_bp cx dX12_begins_23 k_bp111 ?_
    refine g_bp cx dX12_begins_25 k_bp114 ?_
    refine g_bp cx dX12_begins_27 k_bp109 ?_
    refine g_ic cx dX12_begins_29 k_ic0 ?_
    refine ob hf (fun q_5 hq_5 hf => ?_)
    refine g_callVFi cx lk_RX12_121 (c_X12_says l D cB cI cJ cZ o s_o 102 111 114 109 0 q_5 hq_5) rfl (ci := 10) (q1 := 0) rfl rfl rfl (Nat.le_of_ble_eq_true rfl) ⟨rfl, rfl, Nat.le_of_ble_eq_true rfl, Nat.le_of_ble_eq_true rfl⟩ dX12_begins_30 ?_
    refine g_if_eq (tgt := 40) cx hf dX12_begins_33 rfl (fun hf => ?_) (fun hf => ?_)
    · refine g_aln cx 0 dX12_begins_40 rfl ?_
      refine g_bp cx dX12_begins_41 k_bp109 ?_
      refine g_bp cx dX12_begins_43 k_bp101 ?_
      refine g_bp cx dX12_begins_45 k_bp116 ?_
      refine g_bp cx dX12_begins_47 k_bp114 ?_
      refine g_bp cx dX12_begins_49 k_bp101 ?_
      refine ob hf (fun q_6 hq_6 hf => ?_)
      refine g_callVFi cx lk_RX12_121 (c_X12_says l D cB cI cJ cZ o s_o 109 101 116 114 101 q_6 hq_6) rfl (ci := 10) (q1 := 0) rfl rfl rfl (Nat.le_of_ble_eq_true rfl) ⟨rfl, rfl, Nat.le_of_ble_eq_true rfl, Nat.le_of_ble_eq_true rfl⟩ dX12_begins_51 ?_
      refine g_if_eq (tgt := 61) cx hf dX12_begins_54 rfl (fun hf => ?_) (fun hf => ?_)
      · refine g_bp cx dX12_begins_61 k_bpm9 ?_
        exact h63 _ hf
      · refine g_ic cx dX12_begins_57 k_ic2 ?_
        refine g_goto (tgt := 63) cx dX12_begins_58 rfl ?_
        exact h63 _ hf
    · refine g_ic cx dX12_begins_36 k_ic1 ?_
      refine g_goto (tgt := 63) cx dX12_begins_37 rfl ?_
      exact h63 _ hf
  · refine g_ic cx dX12_begins_16 k_ic0 ?_
    refine g_goto (tgt := 63) cx dX12_begins_17 rfl ?_
    exact h63 _ hf
theorem dX12_areLetters_0 : decode cX12_areLetters 0 = .ok (.aload_n 0, 1) := by decide +kernel
theorem dX12_areLetters_1 : decode cX12_areLetters 1 = .ok (.getfield 101, 3) := by decide +kernel
theorem dX12_areLetters_4 : decode cX12_areLetters 4 = .ok (.iconst 1, 1) := by decide +kernel
theorem dX12_areLetters_5 : decode cX12_areLetters 5 = .ok (.if_icmp .ne 20, 3) := by decide +kernel
theorem dX12_areLetters_8 : decode cX12_areLetters 8 = .ok (.aload_n 0, 1) := by decide +kernel
theorem dX12_areLetters_9 : decode cX12_areLetters 9 = .ok (.getfield 91, 3) := by decide +kernel
theorem dX12_areLetters_12 : decode cX12_areLetters 12 = .ok (.aload_n 0, 1) := by decide +kernel
theorem dX12_areLetters_13 : decode cX12_areLetters 13 = .ok (.getfield 98, 3) := by decide +kernel
theorem dX12_areLetters_16 : decode cX12_areLetters 16 = .ok (.isub, 1) := by decide +kernel
theorem dX12_areLetters_17 : decode cX12_areLetters 17 = .ok (.iload_n 1, 1) := by decide +kernel
theorem dX12_areLetters_18 : decode cX12_areLetters 18 = .ok (.if_icmp .gt 7, 3) := by decide +kernel
theorem dX12_areLetters_21 : decode cX12_areLetters 21 = .ok (.iconst 1, 1) := by decide +kernel
theorem dX12_areLetters_22 : decode cX12_areLetters 22 = .ok (.goto 4, 3) := by decide +kernel
theorem dX12_areLetters_25 : decode cX12_areLetters 25 = .ok (.iconst 0, 1) := by decide +kernel
theorem dX12_areLetters_26 : decode cX12_areLetters 26 = .ok (.istore_n 2, 1) := by decide +kernel
theorem dX12_areLetters_27 : decode cX12_areLetters 27 = .ok (.aload_n 0, 1) := by decide +kernel
theorem dX12_areLetters_28 : decode cX12_areLetters 28 = .ok (.getfield 98, 3) := by decide +kernel
theorem dX12_areLetters_31 : decode cX12_areLetters 31 = .ok (.istore_n 3, 1) := by decide +kernel
theorem dX12_areLetters_32 : decode cX12_areLetters 32 = .ok (.iload_n 3, 1) := by decide +kernel
theorem dX12_areLetters_33 : decode cX12_areLetters 33 = .ok (.aload_n 0, 1) := by decide +kernel
theorem dX12_areLetters_34 : decode cX12_areLetters 34 = .ok (.getfield 91, 3) := by decide +kernel
theorem dX12_areLetters_37 : decode cX12_areLetters 37 = .ok (.if_icmp .ge 26, 3) := by decide +kernel
theorem dX12_areLetters_40 : decode cX12_areLetters 40 = .ok (.iload_n 2, 1) := by decide +kernel
theorem dX12_areLetters_41 : decode cX12_areLetters 41 = .ok (.ifCond .eq 22, 3) := by decide +kernel
theorem dX12_areLetters_44 : decode cX12_areLetters 44 = .ok (.aload_n 0, 1) := by decide +kernel
theorem dX12_areLetters_45 : decode cX12_areLetters 45 = .ok (.iload_n 3, 1) := by decide +kernel
theorem dX12_areLetters_46 : decode cX12_areLetters 46 = .ok (.invokevirtual 94, 3) := by decide +kernel
theorem dX12_areLetters_49 : decode cX12_areLetters 49 = .ok (.bipush 97, 2) := by decide +kernel
theorem dX12_areLetters_51 : decode cX12_areLetters 51 = .ok (.bipush 104, 2) := by decide +kernel
theorem dX12_areLetters_53 : decode cX12_areLetters 53 = .ok (.invokestatic 82, 3) := by decide +kernel
theorem dX12_areLetters_56 : decode cX12_areLetters 56 = .ok (.istore_n 2, 1) := by decide +kernel
theorem dX12_areLetters_57 : decode cX12_areLetters 57 = .ok (.iinc 3 1, 3) := by decide +kernel
theorem dX12_areLetters_60 : decode cX12_areLetters 60 = .ok (.goto (-28), 3) := by decide +kernel
theorem dX12_areLetters_63 : decode cX12_areLetters 63 = .ok (.iload_n 2, 1) := by decide +kernel
theorem dX12_areLetters_64 : decode cX12_areLetters 64 = .ok (.ireturn, 1) := by decide +kernel
theorem k_bp104 : (Int8.ofInt (104)).toInt32 = 104 := by decide


def F_X12_areLetters_b32 (s_o : SM) (x1 : Int32) : Nat → Int32 → Int32 → Option (Int32)
  | 0, _, _ => none
  | n + 1, v2, v3 => (if (mI s_o 4) ≤ v3 then (zb v2).bind fun z_1 => some (v2) else (if v2 = 0 then (zb v2).bind fun z_2 => some (v2) else (F_X12_byteAt s_o v3).bind fun q_3 => (F_X12_in q_3 97 104).bind fun q_4 => nm q_4 fun v2_5 => nm (v3 + 1) fun v3_6 => (F_X12_areLetters_b32 s_o x1 n) v2_5 v3_6))
def F_X12_areLetters_b26 (s_o : SM) (x1 : Int32) (k0 : Int32) : Option (Int32) := nm k0 fun v2_7 => nm (mI s_o 6) fun v3_8 => F_X12_areLetters_b32 s_o x1 fu v2_7 v3_8
def F_X12_areLetters_b25 (s_o : SM) (x1 : Int32) : Option (Int32) := F_X12_areLetters_b26 s_o x1 0
def F_X12_areLetters (s_o : SM) (x1 : Int32) : Option (Int32) := (if (mI s_o 5) = 1 then (if x1 < ((mI s_o 4) - (mI s_o 6)) then F_X12_areLetters_b25 s_o x1 else F_X12_areLetters_b26 s_o x1 1) else F_X12_areLetters_b25 s_o x1)

abbrev rm_X12_areLetters : Room := { frames := 1, cells := 0, slots := 0, locals := 22 }
set_option maxHeartbeats 4000000 in
set_option maxRecDepth 100000 in
theorem c_X12_areLetters (l : Launch) (D : gG) (cB cI cJ cZ : ClassId) (o : Nat → Nat) (s_o : SM) (x1 : Int32) (r : Int32) (hf : F_X12_areLetters s_o x1 = some r) : gM l D (tyL cB cI cJ cZ) yX12_areLetters cX12_areLetters 4 (some .boolean) rm_X12_areLetters [.ref (o 0), .int x1] (wX12 o cB cI cJ cZ s_o) (some (.int r)) (wX12 o cB cI cJ cZ s_o) := by
  refine met_of (by decide) (Nat.le_of_ble_eq_true rfl) ?_
  intro p e s m args below meth c A cx hr hA
  show gW p l e rm_X12_areLetters s m args below meth c D A 4 _ 0 0 _ [(0, .ref (o 0)), (1, .int x1)] 0 []
  have h32 : ∀ (n : Nat) (v2 : Int32) (v3 : Int32), F_X12_areLetters_b32 s_o x1 n v2 v3 = some r → gW p l e rm_X12_areLetters s m args below meth c D A 4 (MQ below (QM D (tyL cB cI cJ cZ) (some (.int r)) (wX12 o cB cI cJ cZ s_o) (wX12 o cB cI cJ cZ s_o) s.heap.size) args s 0 0 A) 0 0 (wX12 o cB cI cJ cZ s_o) [(0, .ref (o 0)), (2, .int v2), (3, .int v3)] 32 [] := by
    intro n
    induction n with
    | zero => intro v2 v3 hf; rw [F_X12_areLetters_b32] at hf; cases hf
    | succ n ih =>
      intro v2 v3 hf
      rw [F_X12_areLetters_b32] at hf
      refine g_iln cx 2 dX12_areLetters_32 rfl ?_
      refine g_aln cx 0 dX12_areLetters_33 rfl ?_
      refine mg_next cx dX12_areLetters_34 ?_
      refine g_ic_ge (tgt := 63) cx hf dX12_areLetters_37 rfl (fun hf => ?_) (fun hf => ?_)
      · refine g_iln cx 1 dX12_areLetters_63 rfl ?_
        refine ob hf (fun z_1 hz hf => ?_)
        exact g_zret (ovf := fun (r : Int32) => (some (.int r))) (wf := fun (r : Int32) => (wX12 o cB cI cJ cZ s_o)) cx hA hr (zb_some hz).2 hf rfl rfl dX12_areLetters_64
      · refine g_iln cx 1 dX12_areLetters_40 rfl ?_
        refine g_if_eq (tgt := 63) cx hf dX12_areLetters_41 rfl (fun hf => ?_) (fun hf => ?_)
        · refine g_iln cx 1 dX12_areLetters_63 rfl ?_
          refine ob hf (fun z_2 hz hf => ?_)
          exact g_zret (ovf := fun (r : Int32) => (some (.int r))) (wf := fun (r : Int32) => (wX12 o cB cI cJ cZ s_o)) cx hA hr (zb_some hz).2 hf rfl rfl dX12_areLetters_64
        · refine g_aln cx 0 dX12_areLetters_44 rfl ?_
          refine g_iln cx 2 dX12_areLetters_45 rfl ?_
          refine ob hf (fun q_3 hq_3 hf => ?_)
          refine g_callVFi cx lk_RX12_94 (c_X12_byteAt l D cB cI cJ cZ o s_o v3 q_3 hq_3) rfl (ci := 10) (q1 := 0) rfl rfl rfl (Nat.le_of_ble_eq_true rfl) ⟨rfl, rfl, Nat.le_of_ble_eq_true rfl, Nat.le_of_ble_eq_true rfl⟩ dX12_areLetters_46 ?_
          refine g_bp cx dX12_areLetters_49 k_bp97 ?_
          refine g_bp cx dX12_areLetters_51 k_bp104 ?_
          refine ob hf (fun q_4 hq_4 hf => ?_)
          refine g_callSiR cx lk_RX12_82 (c_X12_in l D cB cI cJ cZ q_3 97 104 q_4 hq_4) rfl [] rfl rfl rfl (Nat.le_of_ble_eq_true rfl) ⟨rfl, rfl, Nat.le_of_ble_eq_true rfl, Nat.le_of_ble_eq_true rfl⟩ dX12_areLetters_53 ?_
          refine g_isn cx (L2 := fun v2_5 => [(2, .int v2_5), (0, .ref (o 0)), (3, .int v3)]) hf dX12_areLetters_56 (Nat.le_of_ble_eq_true rfl) (fun _ => rfl) (fun v2_5 hf => ?_)
          refine g_inc cx (L2 := fun v3_6 => [(3, .int v3_6), (2, .int v2_5), (0, .ref (o 0))]) 2 hf dX12_areLetters_57 rfl (k_inc1 _) (Nat.le_of_ble_eq_true rfl) (fun _ => rfl) (fun v3_6 hf => ?_)
          refine g_goto (tgt := 32) cx dX12_areLetters_60 rfl ?_
          refine g_sub [2, 1, 0] rfl ?_
          exact ih _ _ hf
  have h26 : ∀ (k0 : Int32), F_X12_areLetters_b26 s_o x1 k0 = some r → gW p l e rm_X12_areLetters s m args below meth c D A 4 (MQ below (QM D (tyL cB cI cJ cZ) (some (.int r)) (wX12 o cB cI cJ cZ s_o) (wX12 o cB cI cJ cZ s_o) s.heap.size) args s 0 0 A) 0 0 (wX12 o cB cI cJ cZ s_o) [(0, .ref (o 0))] 26 [.int k0] := by
    intro k0 hf
    rw [F_X12_areLetters_b26] at hf
    refine g_isn cx (L2 := fun v2_7 => [(2, .int v2_7), (0, .ref (o 0))]) hf dX12_areLetters_26 (Nat.le_of_ble_eq_true rfl) (fun _ => rfl) (fun v2_7 hf => ?_)
    refine g_aln cx 1 dX12_areLetters_27 rfl ?_
    refine mg_place cx dX12_areLetters_28 ?_
    refine g_isn cx (L2 := fun v3_8 => [(3, .int v3_8), (2, .int v2_7), (0, .ref (o 0))]) hf dX12_areLetters_31 (Nat.le_of_ble_eq_true rfl) (fun _ => rfl) (fun v3_8 hf => ?_)
    refine g_sub [2, 1, 0] rfl ?_
    exact h32 fu _ _ hf
  have h25 : F_X12_areLetters_b25 s_o x1 = some r → gW p l e rm_X12_areLetters s m args below meth c D A 4 (MQ below (QM D (tyL cB cI cJ cZ) (some (.int r)) (wX12 o cB cI cJ cZ s_o) (wX12 o cB cI cJ cZ s_o) s.heap.size) args s 0 0 A) 0 0 (wX12 o cB cI cJ cZ s_o) [(0, .ref (o 0))] 25 [] := by
    intro hf
    rw [F_X12_areLetters_b25] at hf
    refine g_ic cx dX12_areLetters_25 k_ic0 ?_
    exact h26 _ hf
  rw [F_X12_areLetters] at hf
  refine g_aln cx 0 dX12_areLetters_0 rfl ?_
  refine mg_token cx dX12_areLetters_1 ?_
  refine g_ic cx dX12_areLetters_4 k_ic1 ?_
  refine g_ic_ne (tgt := 25) cx hf dX12_areLetters_5 rfl (fun hf => ?_) (fun hf => ?_)
  · refine g_sub [0] rfl ?_
    exact h25 hf
  · refine g_aln cx 0 dX12_areLetters_8 rfl ?_
    refine mg_next cx dX12_areLetters_9 ?_
    refine g_aln cx 0 dX12_areLetters_12 rfl ?_
    refine mg_place cx dX12_areLetters_13 ?_
    refine g_isub cx dX12_areLetters_16 ?_
    refine g_iln cx 1 dX12_areLetters_17 rfl ?_
    refine g_ic_gt (tgt := 25) cx hf dX12_areLetters_18 rfl (fun hf => ?_) (fun hf => ?_)
    · refine g_sub [0] rfl ?_
      exact h25 hf
    · refine g_ic cx dX12_areLetters_21 k_ic1 ?_
      refine g_goto (tgt := 26) cx dX12_areLetters_22 rfl ?_
      refine g_sub [0] rfl ?_
      exact h26 _ hf
