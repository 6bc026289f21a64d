theorem dX9_enter_0 : decode cX9_enter 0 = .ok (.aload_n 0, 1) := by decide +kernel
theorem dX9_enter_1 : decode cX9_enter 1 = .ok (.getfield 9, 3) := by decide +kernel
theorem dX9_enter_4 : decode cX9_enter 4 = .ok (.iload_n 1, 1) := by decide +kernel
theorem dX9_enter_5 : decode cX9_enter 5 = .ok (.iload_n 3, 1) := by decide +kernel
theorem dX9_enter_6 : decode cX9_enter 6 = .ok (.invokestatic 81, 3) := by decide +kernel
theorem dX9_enter_9 : decode cX9_enter 9 = .ok (.aload_n 0, 1) := by decide +kernel
theorem dX9_enter_10 : decode cX9_enter 10 = .ok (.getfield 15, 3) := by decide +kernel
theorem dX9_enter_13 : decode cX9_enter 13 = .ok (.iload_n 1, 1) := by decide +kernel
theorem dX9_enter_14 : decode cX9_enter 14 = .ok (.iload_n 3, 1) := by decide +kernel
theorem dX9_enter_15 : decode cX9_enter 15 = .ok (.iconst 2, 1) := by decide +kernel
theorem dX9_enter_16 : decode cX9_enter 16 = .ok (.if_icmp .ne 8, 3) := by decide +kernel
theorem dX9_enter_19 : decode cX9_enter 19 = .ok (.iload 4, 2) := by decide +kernel
theorem dX9_enter_21 : decode cX9_enter 21 = .ok (.goto 4, 3) := by decide +kernel
theorem dX9_enter_24 : decode cX9_enter 24 = .ok (.iconst (-1), 1) := by decide +kernel
theorem dX9_enter_25 : decode cX9_enter 25 = .ok (.invokestatic 81, 3) := by decide +kernel
theorem dX9_enter_28 : decode cX9_enter 28 = .ok (.iload_n 3, 1) := by decide +kernel
theorem dX9_enter_29 : decode cX9_enter 29 = .ok (.ifCond .eq 12, 3) := by decide +kernel
theorem dX9_enter_32 : decode cX9_enter 32 = .ok (.aload_n 0, 1) := by decide +kernel
theorem dX9_enter_33 : decode cX9_enter 33 = .ok (.getfield 18, 3) := by decide +kernel
theorem dX9_enter_36 : decode cX9_enter 36 = .ok (.iload_n 2, 1) := by decide +kernel
theorem dX9_enter_37 : decode cX9_enter 37 = .ok (.iload_n 1, 1) := by decide +kernel
theorem dX9_enter_38 : decode cX9_enter 38 = .ok (.invokestatic 81, 3) := by decide +kernel
theorem dX9_enter_41 : decode cX9_enter 41 = .ok (.iload_n 3, 1) := by decide +kernel
theorem dX9_enter_42 : decode cX9_enter 42 = .ok (.iconst 2, 1) := by decide +kernel
theorem dX9_enter_43 : decode cX9_enter 43 = .ok (.if_icmp .ne 20, 3) := by decide +kernel
theorem dX9_enter_46 : decode cX9_enter 46 = .ok (.aload_n 0, 1) := by decide +kernel
theorem dX9_enter_47 : decode cX9_enter 47 = .ok (.dup, 1) := by decide +kernel
theorem dX9_enter_48 : decode cX9_enter 48 = .ok (.getfield 30, 3) := by decide +kernel
theorem dX9_enter_51 : decode cX9_enter 51 = .ok (.iconst 1, 1) := by decide +kernel
theorem dX9_enter_52 : decode cX9_enter 52 = .ok (.iload_n 1, 1) := by decide +kernel
theorem dX9_enter_53 : decode cX9_enter 53 = .ok (.ishl, 1) := by decide +kernel
theorem dX9_enter_54 : decode cX9_enter 54 = .ok (.iconst 1, 1) := by decide +kernel
theorem dX9_enter_55 : decode cX9_enter 55 = .ok (.iload 4, 2) := by decide +kernel
theorem dX9_enter_57 : decode cX9_enter 57 = .ok (.ishl, 1) := by decide +kernel
theorem dX9_enter_58 : decode cX9_enter 58 = .ok (.ior, 1) := by decide +kernel
theorem dX9_enter_59 : decode cX9_enter 59 = .ok (.ior, 1) := by decide +kernel
theorem dX9_enter_60 : decode cX9_enter 60 = .ok (.putfield 30, 3) := by decide +kernel
theorem dX9_enter_63 : decode cX9_enter 63 = .ok (.return_, 1) := by decide +kernel
theorem q1_58 : Cond.fieldLink RX9 9 "RhymeLaw$Verdict" "states" "[I" ∈ TT := tq1 58 rfl rfl
theorem q1_59 : Cond.fieldLink RX9 15 "RhymeLaw$Verdict" "anchors" "[I" ∈ TT := tq1 59 rfl rfl
theorem q1_60 : Cond.fieldLink RX9 18 "RhymeLaw$Verdict" "latest" "[I" ∈ TT := tq1 60 rfl rfl
theorem q1_62 : Cond.fieldLink RX9 30 "RhymeLaw$Verdict" "binding" "I" ∈ TT := tq1 62 rfl rfl
theorem q3_144 : Cond.methodLink RX9 81 yX6_set ∈ TT := tq3 144 rfl rfl
theorem fg_RX9_30 {p : Program} {l : Launch} {e : Env} {R : Room} {s : State} {m : MethodId} {args : Array Value} {below : List Frame} {meth : Method} {c : Code} {D : gG} {tys : List (ClassId × FieldType)} {A : Nat → Prop} {nL : Nat} {Q : State → Prop} {cells slots : Nat} {cc : ByteArray} {ws : va_W} {L : List (Nat × Value)} {pc : Nat} {stk : List Value} (cx : gX p s m args meth c cc nL RX9 D tys A) {a : Nat} {fs : List Value} {v : Value} (q0 : Nat) (he : ws[q0]? = some (a, .inr (7, fs))) (hv : fs[4]? = some v) (hd : decode cc pc = .ok (.getfield 30, 3)) (kk : gW p l e R s m args below meth c D A nL Q cells slots ws L (pc + 3) (v :: stk)) : gW p l e R s m args below meth c D A nL Q cells slots ws L pc (.ref a :: stk) :=
  g_get cx (C := RX9) (T := TX9) (N := 5) inT9 rfl 4 (Nat.le_of_ble_eq_true rfl) q1_62 rfl q0 he hv hd kk
theorem fp_RX9_30 {p : Program} {l : Launch} {e : Env} {R : Room} {s : State} {m : MethodId} {args : Array Value} {below : List Frame} {meth : Method} {c : Code} {D : gG} {tys : List (ClassId × FieldType)} {A : Nat → Prop} {nL : Nat} {Q : State → Prop} {cells slots : Nat} {cc : ByteArray} {ws : va_W} {L : List (Nat × Value)} {pc : Nat} {stk : List Value} (cx : gX p s m args meth c cc nL RX9 D tys A) {a : Nat} {fs : List Value} {x : Int32} (q0 : Nat) (he : ws[q0]? = some (a, .inr (7, fs))) (hl : 4 < fs.length) {ws' : va_W} (hw : ws.set q0 (a, .inr (7, fs.set 4 (.int x))) = ws') (hd : decode cc pc = .ok (.putfield 30, 3)) (kk : gW p l e R s m args below meth c D A nL Q cells slots ws' L (pc + 3) stk) : gW p l e R s m args below meth c D A nL Q cells slots ws L pc (.int x :: .ref a :: stk) :=
  g_put cx (C := RX9) (T := TX9) (N := 5) (ty0 := tyX9) (ty := .int) inT9 tyX9_ok nmX9 rfl 4 (Nat.le_of_ble_eq_true rfl) q1_62 rfl rfl rfl rfl rfl q0 he hl hw hd kk
theorem lk_RX9_81 : slk RX9 81 yX6_set cX6_set 3 none 3 := ⟨List.forall_mem_cons.mpr ⟨q3_144, List.forall_mem_cons.mpr ⟨q2_178, List.forall_mem_cons.mpr ⟨q1_19, fun _ h => absurd h List.not_mem_nil⟩⟩⟩, q2_179, by decide, by decide, by decide +kernel⟩
theorem fg_RX9_18 {p : Program} {l : Launch} {e : Env} {R : Room} {s : State} {m : MethodId} {args : Array Value} {below : List Frame} {meth : Method} {c : Code} {D : gG} {tys : List (ClassId × FieldType)} {A : Nat → Prop} {nL : Nat} {Q : State → Prop} {cells slots : Nat} {cc : ByteArray} {ws : va_W} {L : List (Nat × Value)} {pc : Nat} {stk : List Value} (cx : gX p s m args meth c cc nL RX9 D tys A) {a : Nat} {fs : List Value} {v : Value} (q0 : Nat) (he : ws[q0]? = some (a, .inr (7, fs))) (hv : fs[2]? = some v) (hd : decode cc pc = .ok (.getfield 18, 3)) (kk : gW p l e R s m args below meth c D A nL Q cells slots ws L (pc + 3) (v :: stk)) : gW p l e R s m args below meth c D A nL Q cells slots ws L pc (.ref a :: stk) :=
  g_get cx (C := RX9) (T := TX9) (N := 5) inT9 rfl 2 (Nat.le_of_ble_eq_true rfl) q1_60 rfl q0 he hv hd kk
theorem fg_RX9_9 {p : Program} {l : Launch} {e : Env} {R : Room} {s : State} {m : MethodId} {args : Array Value} {below : List Frame} {meth : Method} {c : Code} {D : gG} {tys : List (ClassId × FieldType)} {A : Nat → Prop} {nL : Nat} {Q : State → Prop} {cells slots : Nat} {cc : ByteArray} {ws : va_W} {L : List (Nat × Value)} {pc : Nat} {stk : List Value} (cx : gX p s m args meth c cc nL RX9 D tys A) {a : Nat} {fs : List Value} {v : Value} (q0 : Nat) (he : ws[q0]? = some (a, .inr (7, fs))) (hv : fs[0]? = some v) (hd : decode cc pc = .ok (.getfield 9, 3)) (kk : gW p l e R s m args below meth c D A nL Q cells slots ws L (pc + 3) (v :: stk)) : gW p l e R s m args below meth c D A nL Q cells slots ws L pc (.ref a :: stk) :=
  g_get cx (C := RX9) (T := TX9) (N := 5) inT9 rfl 0 (Nat.le_of_ble_eq_true rfl) q1_58 rfl q0 he hv hd kk
theorem fg_RX9_15 {p : Program} {l : Launch} {e : Env} {R : Room} {s : State} {m : MethodId} {args : Array Value} {below : List Frame} {meth : Method} {c : Code} {D : gG} {tys : List (ClassId × FieldType)} {A : Nat → Prop} {nL : Nat} {Q : State → Prop} {cells slots : Nat} {cc : ByteArray} {ws : va_W} {L : List (Nat × Value)} {pc : Nat} {stk : List Value} (cx : gX p s m args meth c cc nL RX9 D tys A) {a : Nat} {fs : List Value} {v : Value} (q0 : Nat) (he : ws[q0]? = some (a, .inr (7, fs))) (hv : fs[1]? = some v) (hd : decode cc pc = .ok (.getfield 15, 3)) (kk : gW p l e R s m args below meth c D A nL Q cells slots ws L (pc + 3) (v :: stk)) : gW p l e R s m args below meth c D A nL Q cells slots ws L pc (.ref a :: stk) :=
  g_get cx (C := RX9) (T := TX9) (N := 5) inT9 rfl 1 (Nat.le_of_ble_eq_true rfl) q1_59 rfl q0 he hv hd kk
def F_X9_enter_b41 (x1 : Int32) (x2 : Int32) (x3 : Int32) (x4 : Int32) (zs_o : S9) : Option (S9) := (if x3 = 2 then nm (u9_binding zs_o ((s9_binding zs_o) ||| ((1 <<< (x1 &&& 31)) ||| (1 <<< (x4 &&& 31))))) fun s_o_1 => some (s_o_1) else some (zs_o))
def F_X9_enter_b25 (x1 : Int32) (x2 : Int32) (x3 : Int32) (x4 : Int32) (zs_o : S9) (k1 : Int32) (k2 : Int32) : Option (S9) := (F_X6_set 8 (s9_anchors zs_o) k1 k2).bind fun q_2 => (if x3 = 0 then F_X9_enter_b41 x1 x2 x3 x4 (u9_anchors zs_o q_2) else (F_X6_set 8 (s9_latest (u9_anchors zs_o q_2)) x2 x1).bind fun q_3 => F_X9_enter_b41 x1 x2 x3 x4 (u9_latest (u9_anchors zs_o q_2) q_3))
def F_X9_enter (s_o : S9) (x1 : Int32) (x2 : Int32) (x3 : Int32) (x4 : Int32) : Option (S9) := (F_X6_set 8 (s9_states s_o) x1 x3).bind fun q_4 => (if x3 = 2 then F_X9_enter_b25 x1 x2 x3 x4 (u9_states s_o q_4) x1 x4 else F_X9_enter_b25 x1 x2 x3 x4 (u9_states s_o q_4) x1 (-1))
def w_X9_enter (o : Nat → Nat) (cB cI cJ cZ : ClassId) (s_o : S9) : va_W := List.flatten [(gX9 o cB cI cJ cZ s_o)]
abbrev rm_X9_enter : Room := { frames := 1, cells := 0, slots := 0, locals := 22 }
set_option maxHeartbeats 4000000 in
set_option maxRecDepth 100000 in
theorem c_X9_enter (l : Launch) (D : gG) (cB cI cJ cZ : ClassId) (o : Nat → Nat) (s_o : S9) (x1 : Int32) (x2 : Int32) (x3 : Int32) (x4 : Int32) (r : S9) (hf : F_X9_enter s_o x1 x2 x3 x4 = some r) : gM l D (tyL cB cI cJ cZ) yX9_enter cX9_enter 5 none rm_X9_enter [.ref (o 0), .int x1, .int x2, .int x3, .int x4] (w_X9_enter o cB cI cJ cZ s_o) none (w_X9_enter o cB cI cJ cZ r) := by
  refine met_of (by decide) (Nat.le_of_ble_eq_true rfl) ?_
  intro p e s m args below meth c A cx hr hA
  show gW p l e rm_X9_enter s m args below meth c D A 5 _ 0 0 _ [(0, .ref (o 0)), (1, .int x1), (2, .int x2), (3, .int x3), (4, .int x4)] 0 []
  have h41 : ∀ (zs_o : S9), F_X9_enter_b41 x1 x2 x3 x4 zs_o = some r → gW p l e rm_X9_enter s m args below meth c D A 5 (MQ below (QM D (tyL cB cI cJ cZ) none (w_X9_enter o cB cI cJ cZ s_o) (w_X9_enter o cB cI cJ cZ r) s.heap.size) args s 0 0 A) 0 0 (w_X9_enter o cB cI cJ cZ zs_o) [(0, .ref (o 0)), (1, .int x1), (3, .int x3), (4, .int x4)] 41 [] := by
    intro zs_o hf
    rw [F_X9_enter_b41] at hf
    refine g_iln cx 2 dX9_enter_41 rfl ?_
    refine g_ic cx dX9_enter_42 k_ic2 ?_
    refine g_ic_ne (tgt := 63) cx hf dX9_enter_43 rfl (fun hf => ?_) (fun hf => ?_)
    · exact g_vret (ovf := fun (r : S9) => none) (wf := fun (r : S9) => (w_X9_enter o cB cI cJ cZ r)) cx hA hr hf rfl rfl dX9_enter_63
    · refine g_aln cx 0 dX9_enter_46 rfl ?_
      refine g_dup cx dX9_enter_47 rfl ?_
      refine fg_RX9_30 cx 0 rfl rfl dX9_enter_48 ?_
      refine g_ic cx dX9_enter_51 k_ic1 ?_
      refine g_iln cx 1 dX9_enter_52 rfl ?_
      refine g_ishl cx dX9_enter_53 ?_
      refine g_ic cx dX9_enter_54 k_ic1 ?_
      refine g_il cx 3 dX9_enter_55 rfl ?_
      refine g_ishl cx dX9_enter_57 ?_
      refine g_ior cx dX9_enter_58 ?_
      refine g_ior cx dX9_enter_59 ?_
      refine fp_RX9_30 cx 0 rfl (Nat.le_of_ble_eq_true rfl) (ws' := (w_X9_enter o cB cI cJ cZ (u9_binding zs_o ((s9_binding zs_o) ||| ((1 <<< (x1 &&& 31)) ||| (1 <<< (x4 &&& 31))))))) rfl dX9_enter_60 ?_
      refine g_nm (w := fun s_o_1 => (w_X9_enter o cB cI cJ cZ s_o_1)) hf (fun s_o_1 hf => ?_)
      exact g_vret (ovf := fun (r : S9) => none) (wf := fun (r : S9) => (w_X9_enter o cB cI cJ cZ r)) cx hA hr hf rfl rfl dX9_enter_63
  have h25 : ∀ (zs_o : S9) (k1 : Int32) (k2 : Int32), F_X9_enter_b25 x1 x2 x3 x4 zs_o k1 k2 = some r → gW p l e rm_X9_enter s m args below meth c D A 5 (MQ below (QM D (tyL cB cI cJ cZ) none (w_X9_enter o cB cI cJ cZ s_o) (w_X9_enter o cB cI cJ cZ r) s.heap.size) args s 0 0 A) 0 0 (w_X9_enter o cB cI cJ cZ zs_o) [(0, .ref (o 0)), (1, .int x1), (2, .int x2), (3, .int x3), (4, .int x4)] 25 [.int k2, .int k1, .ref (o 2)] := by
    intro zs_o k1 k2 hf
    rw [F_X9_enter_b25] at hf
    refine ob hf (fun q_2 hq_2 hf => ?_)
    refine g_callSv cx lk_RX9_81 (c_X6_set l D cB cI cJ cZ (o 2) 8 (s9_anchors zs_o) k1 k2 q_2 hq_2) rfl [2] rfl rfl (ws' := (w_X9_enter o cB cI cJ cZ (u9_anchors zs_o q_2))) rfl rfl rfl (Nat.le_of_ble_eq_true rfl) ⟨rfl, rfl, Nat.le_of_ble_eq_true rfl, Nat.le_of_ble_eq_true rfl⟩ dX9_enter_25 ?_
    refine g_iln cx 3 dX9_enter_28 rfl ?_
    refine g_if_eq (tgt := 41) cx hf dX9_enter_29 rfl (fun hf => ?_) (fun hf => ?_)
    · refine g_sub [0, 1, 3, 4] rfl ?_
      exact h41 _ hf
    · refine g_aln cx 0 dX9_enter_32 rfl ?_
      refine fg_RX9_18 cx 0 rfl rfl dX9_enter_33 ?_
      refine g_iln cx 2 dX9_enter_36 rfl ?_
      refine g_iln cx 1 dX9_enter_37 rfl ?_
      refine ob hf (fun q_3 hq_3 hf => ?_)
      refine g_callSv cx lk_RX9_81 (c_X6_set l D cB cI cJ cZ (o 3) 8 (s9_latest (u9_anchors zs_o q_2)) x2 x1 q_3 hq_3) rfl [3] rfl rfl (ws' := (w_X9_enter o cB cI cJ cZ (u9_latest (u9_anchors zs_o q_2) q_3))) rfl rfl rfl (Nat.le_of_ble_eq_true rfl) ⟨rfl, rfl, Nat.le_of_ble_eq_true rfl, Nat.le_of_ble_eq_true rfl⟩ dX9_enter_38 ?_
      refine g_sub [0, 1, 3, 4] rfl ?_
      exact h41 _ hf
  rw [F_X9_enter] at hf
  refine g_aln cx 0 dX9_enter_0 rfl ?_
  refine fg_RX9_9 cx 0 rfl rfl dX9_enter_1 ?_
  refine g_iln cx 1 dX9_enter_4 rfl ?_
  refine g_iln cx 3 dX9_enter_5 rfl ?_
  refine ob hf (fun q_4 hq_4 hf => ?_)
  refine g_callSv cx lk_RX9_81 (c_X6_set l D cB cI cJ cZ (o 1) 8 (s9_states s_o) x1 x3 q_4 hq_4) rfl [1] rfl rfl (ws' := (w_X9_enter o cB cI cJ cZ (u9_states s_o q_4))) rfl rfl rfl (Nat.le_of_ble_eq_true rfl) ⟨rfl, rfl, Nat.le_of_ble_eq_true rfl, Nat.le_of_ble_eq_true rfl⟩ dX9_enter_6 ?_
  refine g_aln cx 0 dX9_enter_9 rfl ?_
  refine fg_RX9_15 cx 0 rfl rfl dX9_enter_10 ?_
  refine g_iln cx 1 dX9_enter_13 rfl ?_
  refine g_iln cx 3 dX9_enter_14 rfl ?_
  refine g_ic cx dX9_enter_15 k_ic2 ?_
  refine g_ic_ne (tgt := 24) cx hf dX9_enter_16 rfl (fun hf => ?_) (fun hf => ?_)
  · refine g_ic cx dX9_enter_24 k_icm1 ?_
    exact h25 _ _ _ hf
  · refine g_il cx 4 dX9_enter_19 rfl ?_
    refine g_goto (tgt := 25) cx dX9_enter_21 rfl ?_
    exact h25 _ _ _ hf
def tX9_judge_8 : List Nat := 0 :: 77 :: 132 :: 5 :: 1 :: 167 :: 255 :: 147 :: 177 :: []
def tX9_judge_7 : List Nat := 153 :: 0 :: 6 :: 5 :: 54 :: 8 :: 42 :: 21 :: 5 :: 21 :: 6 :: 21 :: 8 :: 21 :: 7 :: 182 :: tX9_judge_8
def tX9_judge_6 : List Nat := 4 :: 44 :: 21 :: 7 :: 182 :: 0 :: 57 :: 44 :: 21 :: 5 :: 182 :: 0 :: 57 :: 182 :: 0 :: 72 :: tX9_judge_7
def tX9_judge_5 : List Nat := 21 :: 7 :: 156 :: 0 :: 9 :: 4 :: 54 :: 8 :: 167 :: 0 :: 30 :: 43 :: 180 :: 0 :: 68 :: 21 :: tX9_judge_6
def tX9_judge_4 : List Nat := 5 :: 182 :: 0 :: 57 :: 44 :: 21 :: 5 :: 182 :: 0 :: 61 :: 182 :: 0 :: 64 :: 153 :: 0 :: 41 :: tX9_judge_5
def tX9_judge_3 : List Nat := 18 :: 21 :: 6 :: 184 :: 0 :: 51 :: 54 :: 7 :: 3 :: 54 :: 8 :: 43 :: 21 :: 6 :: 44 :: 21 :: tX9_judge_4
def tX9_judge_2 : List Nat := 106 :: 43 :: 180 :: 0 :: 39 :: 29 :: 21 :: 5 :: 182 :: 0 :: 45 :: 54 :: 6 :: 42 :: 180 :: 0 :: tX9_judge_3
def tX9_judge_1 : List Nat := 18 :: 2 :: 184 :: 0 :: 33 :: 3 :: 54 :: 5 :: 21 :: 5 :: 42 :: 180 :: 0 :: 27 :: 162 :: 0 :: tX9_judge_2
def tX9_judge_0 : List Nat := 42 :: 44 :: 182 :: 0 :: 21 :: 181 :: 0 :: 27 :: 42 :: 3 :: 181 :: 0 :: 30 :: 42 :: 180 :: 0 :: tX9_judge_1
theorem tX9_judgef_0 : (cX9_judge.data.toList.map UInt8.toNat).drop 0 = tX9_judge_0 := by decide +kernel
theorem tX9_judgef_1 : (cX9_judge.data.toList.map UInt8.toNat).drop 16 = tX9_judge_1 := fd_next (k := 0) tX9_judgef_0 rfl
theorem tX9_judgef_2 : (cX9_judge.data.toList.map UInt8.toNat).drop 32 = tX9_judge_2 := fd_next (k := 16) tX9_judgef_1 rfl
theorem tX9_judgef_3 : (cX9_judge.data.toList.map UInt8.toNat).drop 48 = tX9_judge_3 := fd_next (k := 32) tX9_judgef_2 rfl
theorem tX9_judgef_4 : (cX9_judge.data.toList.map UInt8.toNat).drop 64 = tX9_judge_4 := fd_next (k := 48) tX9_judgef_3 rfl
theorem tX9_judgef_5 : (cX9_judge.data.toList.map UInt8.toNat).drop 80 = tX9_judge_5 := fd_next (k := 64) tX9_judgef_4 rfl
theorem tX9_judgef_6 : (cX9_judge.data.toList.map UInt8.toNat).drop 96 = tX9_judge_6 := fd_next (k := 80) tX9_judgef_5 rfl
theorem tX9_judgef_7 : (cX9_judge.data.toList.map UInt8.toNat).drop 112 = tX9_judge_7 := fd_next (k := 96) tX9_judgef_6 rfl
theorem tX9_judgef_8 : (cX9_judge.data.toList.map UInt8.toNat).drop 128 = tX9_judge_8 := fd_next (k := 112) tX9_judgef_7 rfl
theorem dX9_judge_0 : decode cX9_judge 0 = .ok (.aload_n 0, 1) := dk_42 (fdB_of (k := 0) tX9_judgef_0 0 42 rfl)
theorem dX9_judge_1 : decode cX9_judge 1 = .ok (.aload_n 2, 1) := dk_44 (fdB_of (k := 0) tX9_judgef_0 1 44 rfl)
theorem dX9_judge_2 : decode cX9_judge 2 = .ok (.invokevirtual 21, 3) := dk_182 (fdB_of (k := 0) tX9_judgef_0 2 182 rfl) (fdB_of (k := 0) tX9_judgef_0 3 0 rfl) (fdB_of (k := 0) tX9_judgef_0 4 21 rfl)
theorem dX9_judge_5 : decode cX9_judge 5 = .ok (.putfield 27, 3) := dk_181 (fdB_of (k := 0) tX9_judgef_0 5 181 rfl) (fdB_of (k := 0) tX9_judgef_0 6 0 rfl) (fdB_of (k := 0) tX9_judgef_0 7 27 rfl)
theorem dX9_judge_8 : decode cX9_judge 8 = .ok (.aload_n 0, 1) := dk_42 (fdB_of (k := 0) tX9_judgef_0 8 42 rfl)
theorem dX9_judge_9 : decode cX9_judge 9 = .ok (.iconst 0, 1) := dk_3 (fdB_of (k := 0) tX9_judgef_0 9 3 rfl)
theorem dX9_judge_10 : decode cX9_judge 10 = .ok (.putfield 30, 3) := dk_181 (fdB_of (k := 0) tX9_judgef_0 10 181 rfl) (fdB_of (k := 0) tX9_judgef_0 11 0 rfl) (fdB_of (k := 0) tX9_judgef_0 12 30 rfl)
theorem dX9_judge_13 : decode cX9_judge 13 = .ok (.aload_n 0, 1) := dk_42 (fdB_of (k := 0) tX9_judgef_0 13 42 rfl)
theorem dX9_judge_14 : decode cX9_judge 14 = .ok (.getfield 18, 3) := dk_180 (fdB_of (k := 0) tX9_judgef_0 14 180 rfl) (fdB_of (k := 0) tX9_judgef_0 15 0 rfl) (fdB_of (k := 16) tX9_judgef_1 0 18 rfl)
theorem dX9_judge_17 : decode cX9_judge 17 = .ok (.iconst (-1), 1) := dk_2 (fdB_of (k := 16) tX9_judgef_1 1 2 rfl)
theorem dX9_judge_18 : decode cX9_judge 18 = .ok (.invokestatic 33, 3) := dk_184 (fdB_of (k := 16) tX9_judgef_1 2 184 rfl) (fdB_of (k := 16) tX9_judgef_1 3 0 rfl) (fdB_of (k := 16) tX9_judgef_1 4 33 rfl)
theorem dX9_judge_21 : decode cX9_judge 21 = .ok (.iconst 0, 1) := dk_3 (fdB_of (k := 16) tX9_judgef_1 5 3 rfl)
theorem dX9_judge_22 : decode cX9_judge 22 = .ok (.istore 5, 2) := dk_54 (fdB_of (k := 16) tX9_judgef_1 6 54 rfl) (fdB_of (k := 16) tX9_judgef_1 7 5 rfl)
theorem dX9_judge_24 : decode cX9_judge 24 = .ok (.iload 5, 2) := dk_21 (fdB_of (k := 16) tX9_judgef_1 8 21 rfl) (fdB_of (k := 16) tX9_judgef_1 9 5 rfl)
theorem dX9_judge_26 : decode cX9_judge 26 = .ok (.aload_n 0, 1) := dk_42 (fdB_of (k := 16) tX9_judgef_1 10 42 rfl)
theorem dX9_judge_27 : decode cX9_judge 27 = .ok (.getfield 27, 3) := dk_180 (fdB_of (k := 16) tX9_judgef_1 11 180 rfl) (fdB_of (k := 16) tX9_judgef_1 12 0 rfl) (fdB_of (k := 16) tX9_judgef_1 13 27 rfl)
theorem dX9_judge_30 : decode cX9_judge 30 = .ok (.if_icmp .ge 106, 3) := dk_162 (fdB_of (k := 16) tX9_judgef_1 14 162 rfl) (fdB_of (k := 16) tX9_judgef_1 15 0 rfl) (fdB_of (k := 32) tX9_judgef_2 0 106 rfl) (by decide +kernel)
theorem dX9_judge_33 : decode cX9_judge 33 = .ok (.aload_n 1, 1) := dk_43 (fdB_of (k := 32) tX9_judgef_2 1 43 rfl)
theorem dX9_judge_34 : decode cX9_judge 34 = .ok (.getfield 39, 3) := dk_180 (fdB_of (k := 32) tX9_judgef_2 2 180 rfl) (fdB_of (k := 32) tX9_judgef_2 3 0 rfl) (fdB_of (k := 32) tX9_judgef_2 4 39 rfl)
theorem dX9_judge_37 : decode cX9_judge 37 = .ok (.iload_n 3, 1) := dk_29 (fdB_of (k := 32) tX9_judgef_2 5 29 rfl)
theorem dX9_judge_38 : decode cX9_judge 38 = .ok (.iload 5, 2) := dk_21 (fdB_of (k := 32) tX9_judgef_2 6 21 rfl) (fdB_of (k := 32) tX9_judgef_2 7 5 rfl)
theorem dX9_judge_40 : decode cX9_judge 40 = .ok (.invokevirtual 45, 3) := dk_182 (fdB_of (k := 32) tX9_judgef_2 8 182 rfl) (fdB_of (k := 32) tX9_judgef_2 9 0 rfl) (fdB_of (k := 32) tX9_judgef_2 10 45 rfl)
theorem dX9_judge_43 : decode cX9_judge 43 = .ok (.istore 6, 2) := dk_54 (fdB_of (k := 32) tX9_judgef_2 11 54 rfl) (fdB_of (k := 32) tX9_judgef_2 12 6 rfl)
theorem dX9_judge_45 : decode cX9_judge 45 = .ok (.aload_n 0, 1) := dk_42 (fdB_of (k := 32) tX9_judgef_2 13 42 rfl)
theorem dX9_judge_46 : decode cX9_judge 46 = .ok (.getfield 18, 3) := dk_180 (fdB_of (k := 32) tX9_judgef_2 14 180 rfl) (fdB_of (k := 32) tX9_judgef_2 15 0 rfl) (fdB_of (k := 48) tX9_judgef_3 0 18 rfl)
theorem dX9_judge_49 : decode cX9_judge 49 = .ok (.iload 6, 2) := dk_21 (fdB_of (k := 48) tX9_judgef_3 1 21 rfl) (fdB_of (k := 48) tX9_judgef_3 2 6 rfl)
theorem dX9_judge_51 : decode cX9_judge 51 = .ok (.invokestatic 51, 3) := dk_184 (fdB_of (k := 48) tX9_judgef_3 3 184 rfl) (fdB_of (k := 48) tX9_judgef_3 4 0 rfl) (fdB_of (k := 48) tX9_judgef_3 5 51 rfl)
theorem dX9_judge_54 : decode cX9_judge 54 = .ok (.istore 7, 2) := dk_54 (fdB_of (k := 48) tX9_judgef_3 6 54 rfl) (fdB_of (k := 48) tX9_judgef_3 7 7 rfl)
theorem dX9_judge_56 : decode cX9_judge 56 = .ok (.iconst 0, 1) := dk_3 (fdB_of (k := 48) tX9_judgef_3 8 3 rfl)
theorem dX9_judge_57 : decode cX9_judge 57 = .ok (.istore 8, 2) := dk_54 (fdB_of (k := 48) tX9_judgef_3 9 54 rfl) (fdB_of (k := 48) tX9_judgef_3 10 8 rfl)
theorem dX9_judge_59 : decode cX9_judge 59 = .ok (.aload_n 1, 1) := dk_43 (fdB_of (k := 48) tX9_judgef_3 11 43 rfl)
theorem dX9_judge_60 : decode cX9_judge 60 = .ok (.iload 6, 2) := dk_21 (fdB_of (k := 48) tX9_judgef_3 12 21 rfl) (fdB_of (k := 48) tX9_judgef_3 13 6 rfl)
theorem dX9_judge_62 : decode cX9_judge 62 = .ok (.aload_n 2, 1) := dk_44 (fdB_of (k := 48) tX9_judgef_3 14 44 rfl)
theorem dX9_judge_63 : decode cX9_judge 63 = .ok (.iload 5, 2) := dk_21 (fdB_of (k := 48) tX9_judgef_3 15 21 rfl) (fdB_of (k := 64) tX9_judgef_4 0 5 rfl)
theorem dX9_judge_65 : decode cX9_judge 65 = .ok (.invokevirtual 57, 3) := dk_182 (fdB_of (k := 64) tX9_judgef_4 1 182 rfl) (fdB_of (k := 64) tX9_judgef_4 2 0 rfl) (fdB_of (k := 64) tX9_judgef_4 3 57 rfl)
theorem dX9_judge_68 : decode cX9_judge 68 = .ok (.aload_n 2, 1) := dk_44 (fdB_of (k := 64) tX9_judgef_4 4 44 rfl)
theorem dX9_judge_69 : decode cX9_judge 69 = .ok (.iload 5, 2) := dk_21 (fdB_of (k := 64) tX9_judgef_4 5 21 rfl) (fdB_of (k := 64) tX9_judgef_4 6 5 rfl)
theorem dX9_judge_71 : decode cX9_judge 71 = .ok (.invokevirtual 61, 3) := dk_182 (fdB_of (k := 64) tX9_judgef_4 7 182 rfl) (fdB_of (k := 64) tX9_judgef_4 8 0 rfl) (fdB_of (k := 64) tX9_judgef_4 9 61 rfl)
theorem dX9_judge_74 : decode cX9_judge 74 = .ok (.invokevirtual 64, 3) := dk_182 (fdB_of (k := 64) tX9_judgef_4 10 182 rfl) (fdB_of (k := 64) tX9_judgef_4 11 0 rfl) (fdB_of (k := 64) tX9_judgef_4 12 64 rfl)
theorem dX9_judge_77 : decode cX9_judge 77 = .ok (.ifCond .eq 41, 3) := dk_153 (fdB_of (k := 64) tX9_judgef_4 13 153 rfl) (fdB_of (k := 64) tX9_judgef_4 14 0 rfl) (fdB_of (k := 64) tX9_judgef_4 15 41 rfl) (by decide +kernel)
theorem dX9_judge_80 : decode cX9_judge 80 = .ok (.iload 7, 2) := dk_21 (fdB_of (k := 80) tX9_judgef_5 0 21 rfl) (fdB_of (k := 80) tX9_judgef_5 1 7 rfl)
theorem dX9_judge_82 : decode cX9_judge 82 = .ok (.ifCond .ge 9, 3) := dk_156 (fdB_of (k := 80) tX9_judgef_5 2 156 rfl) (fdB_of (k := 80) tX9_judgef_5 3 0 rfl) (fdB_of (k := 80) tX9_judgef_5 4 9 rfl) (by decide +kernel)
theorem dX9_judge_85 : decode cX9_judge 85 = .ok (.iconst 1, 1) := dk_4 (fdB_of (k := 80) tX9_judgef_5 5 4 rfl)
theorem dX9_judge_86 : decode cX9_judge 86 = .ok (.istore 8, 2) := dk_54 (fdB_of (k := 80) tX9_judgef_5 6 54 rfl) (fdB_of (k := 80) tX9_judgef_5 7 8 rfl)
theorem dX9_judge_88 : decode cX9_judge 88 = .ok (.goto 30, 3) := dk_167 (fdB_of (k := 80) tX9_judgef_5 8 167 rfl) (fdB_of (k := 80) tX9_judgef_5 9 0 rfl) (fdB_of (k := 80) tX9_judgef_5 10 30 rfl) (by decide +kernel)
theorem dX9_judge_91 : decode cX9_judge 91 = .ok (.aload_n 1, 1) := dk_43 (fdB_of (k := 80) tX9_judgef_5 11 43 rfl)
theorem dX9_judge_92 : decode cX9_judge 92 = .ok (.getfield 68, 3) := dk_180 (fdB_of (k := 80) tX9_judgef_5 12 180 rfl) (fdB_of (k := 80) tX9_judgef_5 13 0 rfl) (fdB_of (k := 80) tX9_judgef_5 14 68 rfl)
theorem dX9_judge_95 : decode cX9_judge 95 = .ok (.iload 4, 2) := dk_21 (fdB_of (k := 80) tX9_judgef_5 15 21 rfl) (fdB_of (k := 96) tX9_judgef_6 0 4 rfl)
theorem dX9_judge_97 : decode cX9_judge 97 = .ok (.aload_n 2, 1) := dk_44 (fdB_of (k := 96) tX9_judgef_6 1 44 rfl)
theorem dX9_judge_98 : decode cX9_judge 98 = .ok (.iload 7, 2) := dk_21 (fdB_of (k := 96) tX9_judgef_6 2 21 rfl) (fdB_of (k := 96) tX9_judgef_6 3 7 rfl)
theorem dX9_judge_100 : decode cX9_judge 100 = .ok (.invokevirtual 57, 3) := dk_182 (fdB_of (k := 96) tX9_judgef_6 4 182 rfl) (fdB_of (k := 96) tX9_judgef_6 5 0 rfl) (fdB_of (k := 96) tX9_judgef_6 6 57 rfl)
theorem dX9_judge_103 : decode cX9_judge 103 = .ok (.aload_n 2, 1) := dk_44 (fdB_of (k := 96) tX9_judgef_6 7 44 rfl)
theorem dX9_judge_104 : decode cX9_judge 104 = .ok (.iload 5, 2) := dk_21 (fdB_of (k := 96) tX9_judgef_6 8 21 rfl) (fdB_of (k := 96) tX9_judgef_6 9 5 rfl)
theorem dX9_judge_106 : decode cX9_judge 106 = .ok (.invokevirtual 57, 3) := dk_182 (fdB_of (k := 96) tX9_judgef_6 10 182 rfl) (fdB_of (k := 96) tX9_judgef_6 11 0 rfl) (fdB_of (k := 96) tX9_judgef_6 12 57 rfl)
theorem dX9_judge_109 : decode cX9_judge 109 = .ok (.invokevirtual 72, 3) := dk_182 (fdB_of (k := 96) tX9_judgef_6 13 182 rfl) (fdB_of (k := 96) tX9_judgef_6 14 0 rfl) (fdB_of (k := 96) tX9_judgef_6 15 72 rfl)
theorem dX9_judge_112 : decode cX9_judge 112 = .ok (.ifCond .eq 6, 3) := dk_153 (fdB_of (k := 112) tX9_judgef_7 0 153 rfl) (fdB_of (k := 112) tX9_judgef_7 1 0 rfl) (fdB_of (k := 112) tX9_judgef_7 2 6 rfl) (by decide +kernel)
theorem dX9_judge_115 : decode cX9_judge 115 = .ok (.iconst 2, 1) := dk_5 (fdB_of (k := 112) tX9_judgef_7 3 5 rfl)
theorem dX9_judge_116 : decode cX9_judge 116 = .ok (.istore 8, 2) := dk_54 (fdB_of (k := 112) tX9_judgef_7 4 54 rfl) (fdB_of (k := 112) tX9_judgef_7 5 8 rfl)
theorem dX9_judge_118 : decode cX9_judge 118 = .ok (.aload_n 0, 1) := dk_42 (fdB_of (k := 112) tX9_judgef_7 6 42 rfl)
theorem dX9_judge_119 : decode cX9_judge 119 = .ok (.iload 5, 2) := dk_21 (fdB_of (k := 112) tX9_judgef_7 7 21 rfl) (fdB_of (k := 112) tX9_judgef_7 8 5 rfl)
theorem dX9_judge_121 : decode cX9_judge 121 = .ok (.iload 6, 2) := dk_21 (fdB_of (k := 112) tX9_judgef_7 9 21 rfl) (fdB_of (k := 112) tX9_judgef_7 10 6 rfl)
theorem dX9_judge_123 : decode cX9_judge 123 = .ok (.iload 8, 2) := dk_21 (fdB_of (k := 112) tX9_judgef_7 11 21 rfl) (fdB_of (k := 112) tX9_judgef_7 12 8 rfl)
theorem dX9_judge_125 : decode cX9_judge 125 = .ok (.iload 7, 2) := dk_21 (fdB_of (k := 112) tX9_judgef_7 13 21 rfl) (fdB_of (k := 112) tX9_judgef_7 14 7 rfl)
theorem dX9_judge_127 : decode cX9_judge 127 = .ok (.invokevirtual 77, 3) := dk_182 (fdB_of (k := 112) tX9_judgef_7 15 182 rfl) (fdB_of (k := 128) tX9_judgef_8 0 0 rfl) (fdB_of (k := 128) tX9_judgef_8 1 77 rfl)
theorem dX9_judge_130 : decode cX9_judge 130 = .ok (.iinc 5 1, 3) := dk_132 (fdB_of (k := 128) tX9_judgef_8 2 132 rfl) (fdB_of (k := 128) tX9_judgef_8 3 5 rfl) (fdB_of (k := 128) tX9_judgef_8 4 1 rfl) (by decide +kernel)
theorem dX9_judge_133 : decode cX9_judge 133 = .ok (.goto (-109), 3) := dk_167 (fdB_of (k := 128) tX9_judgef_8 5 167 rfl) (fdB_of (k := 128) tX9_judgef_8 6 255 rfl) (fdB_of (k := 128) tX9_judgef_8 7 147 rfl) (by decide +kernel)
theorem dX9_judge_136 : decode cX9_judge 136 = .ok (.return_, 1) := dk_177 (fdB_of (k := 128) tX9_judgef_8 8 177 rfl)

theorem q0_5 : Cond.selects RX9 yX9_enter yX9_enter ∈ TT := tq0 5 rfl rfl
theorem q1_3 : Cond.initialized RX9 ∈ TT := tq1 3 rfl rfl
theorem q1_61 : Cond.fieldLink RX9 27 "RhymeLaw$Verdict" "size" "I" ∈ TT := tq1 61 rfl rfl
theorem q1_200 : Cond.fieldLink RX9 68 "RhymeLaw$Tale" "words" "LRhymeLaw$Words;" ∈ TT := tq1 200 rfl rfl
theorem q1_207 : Cond.fieldLink RX9 39 "RhymeLaw$Tale" "forms" "LRhymeLaw$Forms;" ∈ TT := tq1 207 rfl rfl
theorem q3_123 : Cond.methodLink RX9 21 yX4_size ∈ TT := tq3 123 rfl rfl
theorem q3_124 : Cond.methodLink RX9 33 yJ7_fill_53178 ∈ TT := tq3 124 rfl rfl
theorem q3_125 : Cond.methodLink RX9 45 yX1_letter ∈ TT := tq3 125 rfl rfl
theorem q3_126 : Cond.methodLink RX9 51 yX6_at ∈ TT := tq3 126 rfl rfl
theorem q3_127 : Cond.methodLink RX9 57 yX4_wordAt ∈ TT := tq3 127 rfl rfl
theorem q3_128 : Cond.methodLink RX9 61 yX4_beforeAt ∈ TT := tq3 128 rfl rfl
theorem q3_129 : Cond.methodLink RX9 64 yX7_fits ∈ TT := tq3 129 rfl rfl
theorem q3_130 : Cond.instanceMethod yX7_fits ∈ TT := tq3 130 rfl rfl
theorem q3_131 : Cond.selects RX7 yX7_fits yX7_fits ∈ TT := tq3 131 rfl rfl
theorem q3_132 : Cond.code yX7_fits cX7_fits 5 (some .boolean) ∈ TT := tq3 132 rfl rfl
theorem q3_135 : Cond.methodLink RX9 72 yX10_rhyme ∈ TT := tq3 135 rfl rfl
theorem q3_136 : Cond.instanceMethod yX10_rhyme ∈ TT := tq3 136 rfl rfl
theorem q3_137 : Cond.selects RX10 yX10_rhyme yX10_rhyme ∈ TT := tq3 137 rfl rfl
theorem q3_138 : Cond.code yX10_rhyme cX10_rhyme 4 (some .boolean) ∈ TT := tq3 138 rfl rfl
theorem q3_140 : Cond.methodLink RX9 77 yX9_enter ∈ TT := tq3 140 rfl rfl
theorem q3_142 : Cond.instanceMethod yX9_enter ∈ TT := tq3 142 rfl rfl
theorem q3_143 : Cond.code yX9_enter cX9_enter 5 none ∈ TT := tq3 143 rfl rfl
theorem lk_RX9_77 : vlk RX9 77 yX9_enter cX9_enter 5 none 4 := ⟨List.forall_mem_cons.mpr ⟨q3_140, List.forall_mem_cons.mpr ⟨q3_142, List.forall_mem_cons.mpr ⟨q0_5, List.forall_mem_cons.mpr ⟨q1_3, fun _ h => absurd h List.not_mem_nil⟩⟩⟩⟩, q3_143, by decide, by decide, by decide +kernel⟩
theorem fg_RX9_27 {p : Program} {l : Launch} {e : Env} {R : Room} {s : State} {m : MethodId} {args : Array Value} {below : List Frame} {meth : Method} {c : Code} {D : gG} {tys : List (ClassId × FieldType)} {A : Nat → Prop} {nL : Nat} {Q : State → Prop} {cells slots : Nat} {cc : ByteArray} {ws : va_W} {L : List (Nat × Value)} {pc : Nat} {stk : List Value} (cx : gX p s m args meth c cc nL RX9 D tys A) {a : Nat} {fs : List Value} {v : Value} (q0 : Nat) (he : ws[q0]? = some (a, .inr (7, fs))) (hv : fs[3]? = some v) (hd : decode cc pc = .ok (.getfield 27, 3)) (kk : gW p l e R s m args below meth c D A nL Q cells slots ws L (pc + 3) (v :: stk)) : gW p l e R s m args below meth c D A nL Q cells slots ws L pc (.ref a :: stk) :=
  g_get cx (C := RX9) (T := TX9) (N := 5) inT9 rfl 3 (Nat.le_of_ble_eq_true rfl) q1_61 rfl q0 he hv hd kk
theorem fg_RX9_39 {p : Program} {l : Launch} {e : Env} {R : Room} {s : State} {m : MethodId} {args : Array Value} {below : List Frame} {meth : Method} {c : Code} {D : gG} {tys : List (ClassId × FieldType)} {A : Nat → Prop} {nL : Nat} {Q : State → Prop} {cells slots : Nat} {cc : ByteArray} {ws : va_W} {L : List (Nat × Value)} {pc : Nat} {stk : List Value} (cx : gX p s m args meth c cc nL RX9 D tys A) {a : Nat} {fs : List Value} {v : Value} (q0 : Nat) (he : ws[q0]? = some (a, .inr (5, fs))) (hv : fs[1]? = some v) (hd : decode cc pc = .ok (.getfield 39, 3)) (kk : gW p l e R s m args below meth c D A nL Q cells slots ws L (pc + 3) (v :: stk)) : gW p l e R s m args below meth c D A nL Q cells slots ws L pc (.ref a :: stk) :=
  g_get cx (C := RX7) (T := TX7) (N := 5) inT7 rfl 1 (Nat.le_of_ble_eq_true rfl) q1_207 rfl q0 he hv hd kk
theorem lk_RX9_45 : vlk RX9 45 yX1_letter cX1_letter 4 (some .int) 2 := ⟨List.forall_mem_cons.mpr ⟨q3_125, List.forall_mem_cons.mpr ⟨q3_53, List.forall_mem_cons.mpr ⟨q3_54, List.forall_mem_cons.mpr ⟨q1_11, fun _ h => absurd h List.not_mem_nil⟩⟩⟩⟩, q3_55, by decide, by decide, by decide +kernel⟩
theorem lk_RX9_51 : slk RX9 51 yX6_at cX6_at 2 (some .int) 2 := ⟨List.forall_mem_cons.mpr ⟨q3_126, List.forall_mem_cons.mpr ⟨q2_207, List.forall_mem_cons.mpr ⟨q1_19, fun _ h => absurd h List.not_mem_nil⟩⟩⟩, q2_208, by decide, by decide, by decide +kernel⟩
theorem lk_RX9_57 : vlk RX9 57 yX4_wordAt cX4_wordAt 2 (some .int) 1 := ⟨List.forall_mem_cons.mpr ⟨q3_127, List.forall_mem_cons.mpr ⟨q3_0, List.forall_mem_cons.mpr ⟨q3_1, List.forall_mem_cons.mpr ⟨q1_4, fun _ h => absurd h List.not_mem_nil⟩⟩⟩⟩, q3_2, by decide, by decide, by decide +kernel⟩
theorem lk_RX9_61 : vlk RX9 61 yX4_beforeAt cX4_beforeAt 2 (some .int) 1 := ⟨List.forall_mem_cons.mpr ⟨q3_128, List.forall_mem_cons.mpr ⟨q3_9, List.forall_mem_cons.mpr ⟨q3_10, List.forall_mem_cons.mpr ⟨q1_4, fun _ h => absurd h List.not_mem_nil⟩⟩⟩⟩, q3_11, by decide, by decide, by decide +kernel⟩
theorem lk_RX9_64 : vlk RX9 64 yX7_fits cX7_fits 5 (some .boolean) 3 := ⟨List.forall_mem_cons.mpr ⟨q3_129, List.forall_mem_cons.mpr ⟨q3_130, List.forall_mem_cons.mpr ⟨q3_131, List.forall_mem_cons.mpr ⟨q1_9, fun _ h => absurd h List.not_mem_nil⟩⟩⟩⟩, q3_132, by decide, by decide, by decide +kernel⟩
theorem fg_RX9_68 {p : Program} {l : Launch} {e : Env} {R : Room} {s : State} {m : MethodId} {args : Array Value} {below : List Frame} {meth : Method} {c : Code} {D : gG} {tys : List (ClassId × FieldType)} {A : Nat → Prop} {nL : Nat} {Q : State → Prop} {cells slots : Nat} {cc : ByteArray} {ws : va_W} {L : List (Nat × Value)} {pc : Nat} {stk : List Value} (cx : gX p s m args meth c cc nL RX9 D tys A) {a : Nat} {fs : List Value} {v : Value} (q0 : Nat) (he : ws[q0]? = some (a, .inr (5, fs))) (hv : fs[0]? = some v) (hd : decode cc pc = .ok (.getfield 68, 3)) (kk : gW p l e R s m args below meth c D A nL Q cells slots ws L (pc + 3) (v :: stk)) : gW p l e R s m args below meth c D A nL Q cells slots ws L pc (.ref a :: stk) :=
  g_get cx (C := RX7) (T := TX7) (N := 5) inT7 rfl 0 (Nat.le_of_ble_eq_true rfl) q1_200 rfl q0 he hv hd kk
theorem lk_RX9_72 : vlk RX9 72 yX10_rhyme cX10_rhyme 4 (some .boolean) 3 := ⟨List.forall_mem_cons.mpr ⟨q3_135, List.forall_mem_cons.mpr ⟨q3_136, List.forall_mem_cons.mpr ⟨q3_137, List.forall_mem_cons.mpr ⟨q1_10, fun _ h => absurd h List.not_mem_nil⟩⟩⟩⟩, q3_138, by decide, by decide, by decide +kernel⟩
theorem lk_RX9_21 : vlk RX9 21 yX4_size cX4_size 1 (some .int) 0 := ⟨List.forall_mem_cons.mpr ⟨q3_123, List.forall_mem_cons.mpr ⟨q2_231, List.forall_mem_cons.mpr ⟨q2_232, List.forall_mem_cons.mpr ⟨q1_4, fun _ h => absurd h List.not_mem_nil⟩⟩⟩⟩, q2_233, by decide, by decide, by decide +kernel⟩
theorem fp_RX9_27 {p : Program} {l : Launch} {e : Env} {R : Room} {s : State} {m : MethodId} {args : Array Value} {below : List Frame} {meth : Method} {c : Code} {D : gG} {tys : List (ClassId × FieldType)} {A : Nat → Prop} {nL : Nat} {Q : State → Prop} {cells slots : Nat} {cc : ByteArray} {ws : va_W} {L : List (Nat × Value)} {pc : Nat} {stk : List Value} (cx : gX p s m args meth c cc nL RX9 D tys A) {a : Nat} {fs : List Value} {x : Int32} (q0 : Nat) (he : ws[q0]? = some (a, .inr (7, fs))) (hl : 3 < fs.length) {ws' : va_W} (hw : ws.set q0 (a, .inr (7, fs.set 3 (.int x))) = ws') (hd : decode cc pc = .ok (.putfield 27, 3)) (kk : gW p l e R s m args below meth c D A nL Q cells slots ws' L (pc + 3) stk) : gW p l e R s m args below meth c D A nL Q cells slots ws L pc (.int x :: .ref a :: stk) :=
  g_put cx (C := RX9) (T := TX9) (N := 5) (ty0 := tyX9) (ty := .int) inT9 tyX9_ok nmX9 rfl 3 (Nat.le_of_ble_eq_true rfl) q1_61 rfl rfl rfl rfl rfl q0 he hl hw hd kk
theorem lk_RX9_33 : slk RX9 33 yJ7_fill_53178 cJ7_fill_53178 4 none 2 := ⟨List.forall_mem_cons.mpr ⟨q3_124, List.forall_mem_cons.mpr ⟨q2_73, List.forall_mem_cons.mpr ⟨q1_14, fun _ h => absurd h List.not_mem_nil⟩⟩⟩, q2_74, by decide, by decide, by decide +kernel⟩
def F_X9_judge_b118 (s_a1 : S7) (s_a2 : S4) (s_a1_forms : S1) (s_a1_words : S10) (x3 : Int32) (x4 : Int32) (K24 : Int32 → S9 → Option (S9)) (v5 : Int32) (v6 : Int32) (v7 : Int32) (v8 : Int32) (zs_o : S9) : Option (S9) := (F_X9_enter zs_o v5 v6 v8 v7).bind fun q_1 => nm (v5 + 1) fun v5_2 => K24 v5_2 q_1
def F_X9_judge_b24 (s_a1 : S7) (s_a2 : S4) (s_a1_forms : S1) (s_a1_words : S10) (x3 : Int32) (x4 : Int32) : Nat → Int32 → S9 → Option (S9)
  | 0, _, _ => none
  | n + 1, v5, zs_o => (if (s9_size zs_o) ≤ v5 then some (zs_o) else (F_X1_letter s_a1_forms x3 v5).bind fun q_3 => nm q_3 fun v6_4 => (F_X6_at 8 (s9_latest zs_o) v6_4).bind fun q_5 => nm q_5 fun v7_6 => nm 0 fun v8_7 => (F_X4_wordAt s_a2 v5).bind fun q_8 => (F_X4_beforeAt s_a2 v5).bind fun q_9 => (F_X7_fits s_a1 s_a1_words v6_4 q_8 q_9).bind fun q_10 => (if q_10 = 0 then F_X9_judge_b118 s_a1 s_a2 s_a1_forms s_a1_words x3 x4 (F_X9_judge_b24 s_a1 s_a2 s_a1_forms s_a1_words x3 x4 n) v5 v6_4 v7_6 v8_7 zs_o else (if 0 ≤ v7_6 then (F_X4_wordAt s_a2 v7_6).bind fun q_11 => (F_X4_wordAt s_a2 v5).bind fun q_12 => (F_X10_rhyme s_a1_words x4 q_11 q_12).bind fun q_13 => (if q_13 = 0 then F_X9_judge_b118 s_a1 s_a2 s_a1_forms s_a1_words x3 x4 (F_X9_judge_b24 s_a1 s_a2 s_a1_forms s_a1_words x3 x4 n) v5 v6_4 v7_6 v8_7 zs_o else nm 2 fun v8_14 => F_X9_judge_b118 s_a1 s_a2 s_a1_forms s_a1_words x3 x4 (F_X9_judge_b24 s_a1 s_a2 s_a1_forms s_a1_words x3 x4 n) v5 v6_4 v7_6 v8_14 zs_o) else nm 1 fun v8_15 => F_X9_judge_b118 s_a1 s_a2 s_a1_forms s_a1_words x3 x4 (F_X9_judge_b24 s_a1 s_a2 s_a1_forms s_a1_words x3 x4 n) v5 v6_4 v7_6 v8_15 zs_o)))
def F_X9_judge (s_a1 : S7) (s_a2 : S4) (s_o : S9) (s_a1_forms : S1) (s_a1_words : S10) (x3 : Int32) (x4 : Int32) : Option (S9) := (F_X4_size s_a2).bind fun q_16 => nm (u9_size s_o q_16) fun s_o_17 => nm (u9_binding s_o_17 0) fun s_o_18 => (F_J7_fill_53178 8 (s9_latest s_o_18) (-1)).bind fun q_19 => nm 0 fun v5_20 => F_X9_judge_b24 s_a1 s_a2 s_a1_forms s_a1_words x3 x4 fu v5_20 (u9_latest s_o_18 q_19)
def w_X9_judge (a1 a2 o a1_forms a1_words a1_paper a1_stock : Nat → Nat) (cB cI cJ cZ : ClassId) (s_a1 : S7) (s_a2 : S4) (s_o : S9) (s_a1_forms : S1) (s_a1_words : S10) : va_W := List.flatten [(gX7 a1 cB cI cJ cZ (a1_words 0) (a1_forms 0) (a1_paper 0) (a1_stock 0) s_a1), (gX4 a2 cB cI cJ cZ s_a2), (gX9 o cB cI cJ cZ s_o), (gX1 a1_forms cB cI cJ cZ s_a1_forms), (gX10 a1_words cB cI cJ cZ s_a1_words)]
abbrev rm_X9_judge : Room := { frames := 3, cells := 0, slots := 0, locals := 66 }
set_option maxHeartbeats 4000000 in
set_option maxRecDepth 100000 in
theorem c_X9_judge (l : Launch) (D : gG) (cB cI cJ cZ : ClassId) (a1 a2 o a1_forms a1_words a1_paper a1_stock : Nat → Nat) (s_a1 : S7) (s_a2 : S4) (s_o : S9) (s_a1_forms : S1) (s_a1_words : S10) (x3 : Int32) (x4 : Int32) (r : S9) (hf : F_X9_judge s_a1 s_a2 s_o s_a1_forms s_a1_words x3 x4 = some r) : gM l D (tyL cB cI cJ cZ) yX9_judge cX9_judge 9 none rm_X9_judge [.ref (o 0), .ref (a1 0), .ref (a2 0), .int x3, .int x4] (w_X9_judge a1 a2 o a1_forms a1_words a1_paper a1_stock cB cI cJ cZ s_a1 s_a2 s_o s_a1_forms s_a1_words) none (w_X9_judge a1 a2 o a1_forms a1_words a1_paper a1_stock cB cI cJ cZ s_a1 s_a2 r s_a1_forms s_a1_words) := by
  refine met_of (by decide) (Nat.le_of_ble_eq_true rfl) ?_
  intro p e s m args below meth c A cx hr hA
  show gW p l e rm_X9_judge s m args below meth c D A 9 _ 0 0 _ [(0, .ref (o 0)), (1, .ref (a1 0)), (2, .ref (a2 0)), (3, .int x3), (4, .int x4)] 0 []
  have h118 : ∀ (K24 : Int32 → S9 → Option (S9)), (∀ (v5 : Int32) (zs_o : S9), K24 v5 zs_o = some r → gW p l e rm_X9_judge s m args below meth c D A 9 (MQ below (QM D (tyL cB cI cJ cZ) none (w_X9_judge a1 a2 o a1_forms a1_words a1_paper a1_stock cB cI cJ cZ s_a1 s_a2 s_o s_a1_forms s_a1_words) (w_X9_judge a1 a2 o a1_forms a1_words a1_paper a1_stock cB cI cJ cZ s_a1 s_a2 r s_a1_forms s_a1_words) s.heap.size) args s 0 0 A) 0 0 (w_X9_judge a1 a2 o a1_forms a1_words a1_paper a1_stock cB cI cJ cZ s_a1 s_a2 zs_o s_a1_forms s_a1_words) [(0, .ref (o 0)), (1, .ref (a1 0)), (2, .ref (a2 0)), (3, .int x3), (4, .int x4), (5, .int v5)] 24 []) → ∀ (v5 : Int32) (v6 : Int32) (v7 : Int32) (v8 : Int32) (zs_o : S9), F_X9_judge_b118 s_a1 s_a2 s_a1_forms s_a1_words x3 x4 K24 v5 v6 v7 v8 zs_o = some r → gW p l e rm_X9_judge s m args below meth c D A 9 (MQ below (QM D (tyL cB cI cJ cZ) none (w_X9_judge a1 a2 o a1_forms a1_words a1_paper a1_stock cB cI cJ cZ s_a1 s_a2 s_o s_a1_forms s_a1_words) (w_X9_judge a1 a2 o a1_forms a1_words a1_paper a1_stock cB cI cJ cZ s_a1 s_a2 r s_a1_forms s_a1_words) s.heap.size) args s 0 0 A) 0 0 (w_X9_judge a1 a2 o a1_forms a1_words a1_paper a1_stock cB cI cJ cZ s_a1 s_a2 zs_o s_a1_forms s_a1_words) [(0, .ref (o 0)), (1, .ref (a1 0)), (2, .ref (a2 0)), (3, .int x3), (4, .int x4), (5, .int v5), (6, .int v6), (7, .int v7), (8, .int v8)] 118 [] := by
    intro K24 kh24 v5 v6 v7 v8 zs_o hf
    rw [F_X9_judge_b118] at hf
    refine g_aln cx 0 dX9_judge_118 rfl ?_
    refine g_il cx 5 dX9_judge_119 rfl ?_
    refine g_il cx 6 dX9_judge_121 rfl ?_
    refine g_il cx 8 dX9_judge_123 rfl ?_
    refine g_il cx 7 dX9_judge_125 rfl ?_
    refine ob hf (fun q_1 hq_1 hf => ?_)
    refine g_callVGv (gs' := [(gX7 a1 cB cI cJ cZ (a1_words 0) (a1_forms 0) (a1_paper 0) (a1_stock 0) s_a1), (gX4 a2 cB cI cJ cZ s_a2), (gX9 o cB cI cJ cZ q_1), (gX1 a1_forms cB cI cJ cZ s_a1_forms), (gX10 a1_words cB cI cJ cZ s_a1_words)]) cx lk_RX9_77 (c_X9_enter l D cB cI cJ cZ o zs_o v5 v6 v8 v7 q_1 hq_1) rfl [2] rfl rfl rfl rfl (ci := 7) (q1 := 0) rfl rfl rfl (Nat.le_of_ble_eq_true rfl) ⟨rfl, rfl, Nat.le_of_ble_eq_true rfl, Nat.le_of_ble_eq_true rfl⟩ dX9_judge_127 ?_
    refine g_inc cx (L2 := fun v5_2 => [(5, .int v5_2), (0, .ref (o 0)), (1, .ref (a1 0)), (2, .ref (a2 0)), (3, .int x3), (4, .int x4), (6, .int v6), (7, .int v7), (8, .int v8)]) 5 hf dX9_judge_130 rfl (k_inc1 _) (Nat.le_of_ble_eq_true rfl) (fun _ => rfl) (fun v5_2 hf => ?_)
    refine g_goto (tgt := 24) cx dX9_judge_133 rfl ?_
    refine g_sub [1, 2, 3, 4, 5, 0] rfl ?_
    exact kh24 _ _ hf
  have h24 : ∀ (n : Nat) (v5 : Int32) (zs_o : S9), F_X9_judge_b24 s_a1 s_a2 s_a1_forms s_a1_words x3 x4 n v5 zs_o = some r → gW p l e rm_X9_judge s m args below meth c D A 9 (MQ below (QM D (tyL cB cI cJ cZ) none (w_X9_judge a1 a2 o a1_forms a1_words a1_paper a1_stock cB cI cJ cZ s_a1 s_a2 s_o s_a1_forms s_a1_words) (w_X9_judge a1 a2 o a1_forms a1_words a1_paper a1_stock cB cI cJ cZ s_a1 s_a2 r s_a1_forms s_a1_words) s.heap.size) args s 0 0 A) 0 0 (w_X9_judge a1 a2 o a1_forms a1_words a1_paper a1_stock cB cI cJ cZ s_a1 s_a2 zs_o s_a1_forms s_a1_words) [(0, .ref (o 0)), (1, .ref (a1 0)), (2, .ref (a2 0)), (3, .int x3), (4, .int x4), (5, .int v5)] 24 [] := by
    intro n
    induction n with
    | zero => intro v5 zs_o hf; rw [F_X9_judge_b24] at hf; cases hf
    | succ n ih =>
      intro v5 zs_o hf
      rw [F_X9_judge_b24] at hf
      refine g_il cx 5 dX9_judge_24 rfl ?_
      refine g_aln cx 0 dX9_judge_26 rfl ?_
      refine fg_RX9_27 cx 6 rfl rfl dX9_judge_27 ?_
      refine g_ic_ge (tgt := 136) cx hf dX9_judge_30 rfl (fun hf => ?_) (fun hf => ?_)
      · exact g_vret (ovf := fun (r : S9) => none) (wf := fun (r : S9) => (w_X9_judge a1 a2 o a1_forms a1_words a1_paper a1_stock cB cI cJ cZ s_a1 s_a2 r s_a1_forms s_a1_words)) cx hA hr hf rfl rfl dX9_judge_136
      · refine g_aln cx 1 dX9_judge_33 rfl ?_
        refine fg_RX9_39 cx 0 rfl rfl dX9_judge_34 ?_
        refine g_iln cx 3 dX9_judge_37 rfl ?_
        refine g_il cx 5 dX9_judge_38 rfl ?_
        refine ob hf (fun q_3 hq_3 hf => ?_)
        refine g_callVGiR cx lk_RX9_45 (c_X1_letter l D cB cI cJ cZ a1_forms s_a1_forms x3 v5 q_3 hq_3) rfl [3] rfl rfl (ci := 1) (q1 := 0) rfl rfl rfl (Nat.le_of_ble_eq_true rfl) ⟨rfl, rfl, Nat.le_of_ble_eq_true rfl, Nat.le_of_ble_eq_true rfl⟩ dX9_judge_40 ?_
        refine g_is cx (L2 := fun v6_4 => [(6, .int v6_4), (0, .ref (o 0)), (1, .ref (a1 0)), (2, .ref (a2 0)), (3, .int x3), (4, .int x4), (5, .int v5)]) hf dX9_judge_43 (Nat.le_of_ble_eq_true rfl) (fun _ => rfl) (fun v6_4 hf => ?_)
        refine g_aln cx 1 dX9_judge_45 rfl ?_
        refine fg_RX9_18 cx 6 rfl rfl dX9_judge_46 ?_
        refine g_il cx 0 dX9_judge_49 rfl ?_
        refine ob hf (fun q_5 hq_5 hf => ?_)
        refine g_callSiR cx lk_RX9_51 (c_X6_at l D cB cI cJ cZ (o 3) 8 (s9_latest zs_o) v6_4 q_5 hq_5) rfl [9] rfl rfl rfl (Nat.le_of_ble_eq_true rfl) ⟨rfl, rfl, Nat.le_of_ble_eq_true rfl, Nat.le_of_ble_eq_true rfl⟩ dX9_judge_51 ?_
        refine g_is cx (L2 := fun v7_6 => [(7, .int v7_6), (6, .int v6_4), (0, .ref (o 0)), (1, .ref (a1 0)), (2, .ref (a2 0)), (3, .int x3), (4, .int x4), (5, .int v5)]) hf dX9_judge_54 (Nat.le_of_ble_eq_true rfl) (fun _ => rfl) (fun v7_6 hf => ?_)
        refine g_ic cx dX9_judge_56 k_ic0 ?_
        refine g_is cx (L2 := fun v8_7 => [(8, .int v8_7), (7, .int v7_6), (6, .int v6_4), (0, .ref (o 0)), (1, .ref (a1 0)), (2, .ref (a2 0)), (3, .int x3), (4, .int x4), (5, .int v5)]) hf dX9_judge_57 (Nat.le_of_ble_eq_true rfl) (fun _ => rfl) (fun v8_7 hf => ?_)
        refine g_aln cx 4 dX9_judge_59 rfl ?_
        refine g_il cx 2 dX9_judge_60 rfl ?_
        refine g_aln cx 5 dX9_judge_62 rfl ?_
        refine g_il cx 8 dX9_judge_63 rfl ?_
        refine ob hf (fun q_8 hq_8 hf => ?_)
        refine g_callVGiR cx lk_RX9_57 (c_X4_wordAt l D cB cI cJ cZ a2 s_a2 v5 q_8 hq_8) rfl [1] rfl rfl (ci := 4) (q1 := 0) rfl rfl rfl (Nat.le_of_ble_eq_true rfl) ⟨rfl, rfl, Nat.le_of_ble_eq_true rfl, Nat.le_of_ble_eq_true rfl⟩ dX9_judge_65 ?_
        refine g_aln cx 5 dX9_judge_68 rfl ?_
        refine g_il cx 8 dX9_judge_69 rfl ?_
        refine ob hf (fun q_9 hq_9 hf => ?_)
        refine g_callVGiR cx lk_RX9_61 (c_X4_beforeAt l D cB cI cJ cZ a2 s_a2 v5 q_9 hq_9) rfl [1] rfl rfl (ci := 4) (q1 := 0) rfl rfl rfl (Nat.le_of_ble_eq_true rfl) ⟨rfl, rfl, Nat.le_of_ble_eq_true rfl, Nat.le_of_ble_eq_true rfl⟩ dX9_judge_71 ?_
        refine ob hf (fun q_10 hq_10 hf => ?_)
        refine g_callVGiR cx lk_RX9_64 (c_X7_fits l D cB cI cJ cZ a1 a1_words a1_forms a1_paper a1_stock s_a1 s_a1_words v6_4 q_8 q_9 q_10 hq_10) rfl [0, 4] rfl rfl (ci := 5) (q1 := 0) rfl rfl rfl (Nat.le_of_ble_eq_true rfl) ⟨rfl, rfl, Nat.le_of_ble_eq_true rfl, Nat.le_of_ble_eq_true rfl⟩ dX9_judge_74 ?_
        refine g_if_eq (tgt := 118) cx hf dX9_judge_77 rfl (fun hf => ?_) (fun hf => ?_)
        · refine g_sub [3, 4, 5, 6, 7, 8, 2, 1, 0] rfl ?_
          exact h118 _ ih _ _ _ _ _ hf
        · refine g_il cx 1 dX9_judge_80 rfl ?_
          refine g_if_ge (tgt := 91) cx hf dX9_judge_82 rfl (fun hf => ?_) (fun hf => ?_)
          · refine g_aln cx 4 dX9_judge_91 rfl ?_
            refine fg_RX9_68 cx 0 rfl rfl dX9_judge_92 ?_
            refine g_il cx 7 dX9_judge_95 rfl ?_
            refine g_aln cx 5 dX9_judge_97 rfl ?_
            refine g_il cx 1 dX9_judge_98 rfl ?_
            refine ob hf (fun q_11 hq_11 hf => ?_)
            refine g_callVGiR cx lk_RX9_57 (c_X4_wordAt l D cB cI cJ cZ a2 s_a2 v7_6 q_11 hq_11) rfl [1] rfl rfl (ci := 4) (q1 := 0) rfl rfl rfl (Nat.le_of_ble_eq_true rfl) ⟨rfl, rfl, Nat.le_of_ble_eq_true rfl, Nat.le_of_ble_eq_true rfl⟩ dX9_judge_100 ?_
            refine g_aln cx 5 dX9_judge_103 rfl ?_
            refine g_il cx 8 dX9_judge_104 rfl ?_
            refine ob hf (fun q_12 hq_12 hf => ?_)
            refine g_callVGiR cx lk_RX9_57 (c_X4_wordAt l D cB cI cJ cZ a2 s_a2 v5 q_12 hq_12) rfl [1] rfl rfl (ci := 4) (q1 := 0) rfl rfl rfl (Nat.le_of_ble_eq_true rfl) ⟨rfl, rfl, Nat.le_of_ble_eq_true rfl, Nat.le_of_ble_eq_true rfl⟩ dX9_judge_106 ?_
            refine ob hf (fun q_13 hq_13 hf => ?_)
            refine g_callVGiR cx lk_RX9_72 (c_X10_rhyme l D cB cI cJ cZ a1_words s_a1_words x4 q_11 q_12 q_13 hq_13) rfl [4] rfl rfl (ci := 8) (q1 := 0) rfl rfl rfl (Nat.le_of_ble_eq_true rfl) ⟨rfl, rfl, Nat.le_of_ble_eq_true rfl, Nat.le_of_ble_eq_true rfl⟩ dX9_judge_109 ?_
            refine g_if_eq (tgt := 118) cx hf dX9_judge_112 rfl (fun hf => ?_) (fun hf => ?_)
            · refine g_sub [3, 4, 5, 6, 7, 8, 2, 1, 0] rfl ?_
              exact h118 _ ih _ _ _ _ _ hf
            · refine g_ic cx dX9_judge_115 k_ic2 ?_
              refine g_is cx (L2 := fun v8_14 => [(8, .int v8_14), (7, .int v7_6), (6, .int v6_4), (0, .ref (o 0)), (1, .ref (a1 0)), (2, .ref (a2 0)), (3, .int x3), (4, .int x4), (5, .int v5)]) hf dX9_judge_116 (Nat.le_of_ble_eq_true rfl) (fun _ => rfl) (fun v8_14 hf => ?_)
              refine g_sub [3, 4, 5, 6, 7, 8, 2, 1, 0] rfl ?_
              exact h118 _ ih _ _ _ _ _ hf
          · refine g_ic cx dX9_judge_85 k_ic1 ?_
            refine g_is cx (L2 := fun v8_15 => [(8, .int v8_15), (7, .int v7_6), (6, .int v6_4), (0, .ref (o 0)), (1, .ref (a1 0)), (2, .ref (a2 0)), (3, .int x3), (4, .int x4), (5, .int v5)]) hf dX9_judge_86 (Nat.le_of_ble_eq_true rfl) (fun _ => rfl) (fun v8_15 hf => ?_)
            refine g_goto (tgt := 118) cx dX9_judge_88 rfl ?_
            refine g_sub [3, 4, 5, 6, 7, 8, 2, 1, 0] rfl ?_
            exact h118 _ ih _ _ _ _ _ hf
  rw [F_X9_judge] at hf
  refine g_aln cx 0 dX9_judge_0 rfl ?_
  refine g_aln cx 2 dX9_judge_1 rfl ?_
  refine ob hf (fun q_16 hq_16 hf => ?_)
  refine g_callVGiR cx lk_RX9_21 (c_X4_size l D cB cI cJ cZ a2 s_a2 q_16 hq_16) rfl [1] rfl rfl (ci := 4) (q1 := 0) rfl rfl rfl (Nat.le_of_ble_eq_true rfl) ⟨rfl, rfl, Nat.le_of_ble_eq_true rfl, Nat.le_of_ble_eq_true rfl⟩ dX9_judge_2 ?_
  refine fp_RX9_27 cx 6 rfl (Nat.le_of_ble_eq_true rfl) (ws' := (w_X9_judge a1 a2 o a1_forms a1_words a1_paper a1_stock cB cI cJ cZ s_a1 s_a2 (u9_size s_o q_16) s_a1_forms s_a1_words)) rfl dX9_judge_5 ?_
  refine g_nm (w := fun s_o_17 => (w_X9_judge a1 a2 o a1_forms a1_words a1_paper a1_stock cB cI cJ cZ s_a1 s_a2 s_o_17 s_a1_forms s_a1_words)) hf (fun s_o_17 hf => ?_)
  refine g_aln cx 0 dX9_judge_8 rfl ?_
  refine g_ic cx dX9_judge_9 k_ic0 ?_
  refine fp_RX9_30 cx 6 rfl (Nat.le_of_ble_eq_true rfl) (ws' := (w_X9_judge a1 a2 o a1_forms a1_words a1_paper a1_stock cB cI cJ cZ s_a1 s_a2 (u9_binding s_o_17 0) s_a1_forms s_a1_words)) rfl dX9_judge_10 ?_
  refine g_nm (w := fun s_o_18 => (w_X9_judge a1 a2 o a1_forms a1_words a1_paper a1_stock cB cI cJ cZ s_a1 s_a2 s_o_18 s_a1_forms s_a1_words)) hf (fun s_o_18 hf => ?_)
  refine g_aln cx 0 dX9_judge_13 rfl ?_
  refine fg_RX9_18 cx 6 rfl rfl dX9_judge_14 ?_
  refine g_ic cx dX9_judge_17 k_icm1 ?_
  refine ob hf (fun q_19 hq_19 hf => ?_)
  refine g_callSv cx lk_RX9_33 (c_J7_fill_53178 l D cB cI cJ cZ (o 3) 8 (s9_latest s_o_18) (-1) q_19 hq_19) rfl [9] rfl rfl (ws' := (w_X9_judge a1 a2 o a1_forms a1_words a1_paper a1_stock cB cI cJ cZ s_a1 s_a2 (u9_latest s_o_18 q_19) s_a1_forms s_a1_words)) rfl rfl rfl (Nat.le_of_ble_eq_true rfl) ⟨rfl, rfl, Nat.le_of_ble_eq_true rfl, Nat.le_of_ble_eq_true rfl⟩ dX9_judge_18 ?_
  refine g_ic cx dX9_judge_21 k_ic0 ?_
  refine g_is cx (L2 := fun v5_20 => [(5, .int v5_20), (0, .ref (o 0)), (1, .ref (a1 0)), (2, .ref (a2 0)), (3, .int x3), (4, .int x4)]) hf dX9_judge_22 (Nat.le_of_ble_eq_true rfl) (fun _ => rfl) (fun v5_20 hf => ?_)
  refine g_sub [1, 2, 3, 4, 5, 0] rfl ?_
  exact h24 fu _ _ hf
theorem dX9_stands_0 : decode cX9_stands 0 = .ok (.aload_n 0, 1) := by decide +kernel
theorem dX9_stands_1 : decode cX9_stands 1 = .ok (.getfield 9, 3) := by decide +kernel
theorem dX9_stands_4 : decode cX9_stands 4 = .ok (.iload_n 1, 1) := by decide +kernel
theorem dX9_stands_5 : decode cX9_stands 5 = .ok (.invokestatic 51, 3) := by decide +kernel
theorem dX9_stands_8 : decode cX9_stands 8 = .ok (.ifCond .eq 7, 3) := by decide +kernel
theorem dX9_stands_11 : decode cX9_stands 11 = .ok (.iconst 1, 1) := by decide +kernel
theorem dX9_stands_12 : decode cX9_stands 12 = .ok (.goto 4, 3) := by decide +kernel
theorem dX9_stands_15 : decode cX9_stands 15 = .ok (.iconst 0, 1) := by decide +kernel
theorem dX9_stands_16 : decode cX9_stands 16 = .ok (.ireturn, 1) := by decide +kernel


def F_X9_stands (s_o : S9) (x1 : Int32) : Option (Int32) := (F_X6_at 8 (s9_states s_o) x1).bind fun q_1 => (if q_1 = 0 then some (0) else some (1))
def w_X9_stands (o : Nat → Nat) (cB cI cJ cZ : ClassId) (s_o : S9) : va_W := List.flatten [(gX9 o cB cI cJ cZ s_o)]
abbrev rm_X9_stands : Room := { frames := 1, cells := 0, slots := 0, locals := 21 }
set_option maxHeartbeats 4000000 in
set_option maxRecDepth 100000 in
theorem c_X9_stands (l : Launch) (D : gG) (cB cI cJ cZ : ClassId) (o : Nat → Nat) (s_o : S9) (x1 : Int32) (r : Int32) (hf : F_X9_stands s_o x1 = some r) : gM l D (tyL cB cI cJ cZ) yX9_stands cX9_stands 2 (some .boolean) rm_X9_stands [.ref (o 0), .int x1] (w_X9_stands o cB cI cJ cZ s_o) (some (.int r)) (w_X9_stands o cB cI cJ cZ s_o) := by
  refine met_of (by decide) (Nat.le_of_ble_eq_true rfl) ?_
  intro p e s m args below meth c A cx hr hA
  show gW p l e rm_X9_stands s m args below meth c D A 2 _ 0 0 _ [(0, .ref (o 0)), (1, .int x1)] 0 []
  rw [F_X9_stands] at hf
  refine g_aln cx 0 dX9_stands_0 rfl ?_
  refine fg_RX9_9 cx 0 rfl rfl dX9_stands_1 ?_
  refine g_iln cx 1 dX9_stands_4 rfl ?_
  refine ob hf (fun q_1 hq_1 hf => ?_)
  refine g_callSiR cx lk_RX9_51 (c_X6_at l D cB cI cJ cZ (o 1) 8 (s9_states s_o) x1 q_1 hq_1) rfl [1] rfl rfl rfl (Nat.le_of_ble_eq_true rfl) ⟨rfl, rfl, Nat.le_of_ble_eq_true rfl, Nat.le_of_ble_eq_true rfl⟩ dX9_stands_5 ?_
  refine g_if_eq (tgt := 15) cx hf dX9_stands_8 rfl (fun hf => ?_) (fun hf => ?_)
  · refine g_ic cx dX9_stands_15 k_ic0 ?_
    exact g_zret (ovf := fun (r : Int32) => (some (.int r))) (wf := fun (r : Int32) => (w_X9_stands o cB cI cJ cZ s_o)) cx hA hr rfl hf rfl rfl dX9_stands_16
  · refine g_ic cx dX9_stands_11 k_ic1 ?_
    refine g_goto (tgt := 16) cx dX9_stands_12 rfl ?_
    exact g_zret (ovf := fun (r : Int32) => (some (.int r))) (wf := fun (r : Int32) => (w_X9_stands o cB cI cJ cZ s_o)) cx hA hr rfl hf rfl rfl dX9_stands_16
theorem dX9_opens_0 : decode cX9_opens 0 = .ok (.aload_n 0, 1) := by decide +kernel
theorem dX9_opens_1 : decode cX9_opens 1 = .ok (.getfield 9, 3) := by decide +kernel
theorem dX9_opens_4 : decode cX9_opens 4 = .ok (.iload_n 1, 1) := by decide +kernel
theorem dX9_opens_5 : decode cX9_opens 5 = .ok (.invokestatic 51, 3) := by decide +kernel
theorem dX9_opens_8 : decode cX9_opens 8 = .ok (.iconst 1, 1) := by decide +kernel
theorem dX9_opens_9 : decode cX9_opens 9 = .ok (.if_icmp .ne 7, 3) := by decide +kernel
theorem dX9_opens_12 : decode cX9_opens 12 = .ok (.iconst 1, 1) := by decide +kernel
theorem dX9_opens_13 : decode cX9_opens 13 = .ok (.goto 4, 3) := by decide +kernel
theorem dX9_opens_16 : decode cX9_opens 16 = .ok (.iconst 0, 1) := by decide +kernel
theorem dX9_opens_17 : decode cX9_opens 17 = .ok (.ireturn, 1) := by decide +kernel


def F_X9_opens (s_o : S9) (x1 : Int32) : Option (Int32) := (F_X6_at 8 (s9_states s_o) x1).bind fun q_1 => (if q_1 = 1 then some (1) else some (0))
def w_X9_opens (o : Nat → Nat) (cB cI cJ cZ : ClassId) (s_o : S9) : va_W := List.flatten [(gX9 o cB cI cJ cZ s_o)]
abbrev rm_X9_opens : Room := { frames := 1, cells := 0, slots := 0, locals := 21 }
set_option maxHeartbeats 4000000 in
set_option maxRecDepth 100000 in
theorem c_X9_opens (l : Launch) (D : gG) (cB cI cJ cZ : ClassId) (o : Nat → Nat) (s_o : S9) (x1 : Int32) (r : Int32) (hf : F_X9_opens s_o x1 = some r) : gM l D (tyL cB cI cJ cZ) yX9_opens cX9_opens 2 (some .boolean) rm_X9_opens [.ref (o 0), .int x1] (w_X9_opens o cB cI cJ cZ s_o) (some (.int r)) (w_X9_opens o cB cI cJ cZ s_o) := by
  refine met_of (by decide) (Nat.le_of_ble_eq_true rfl) ?_
  intro p e s m args below meth c A cx hr hA
  show gW p l e rm_X9_opens s m args below meth c D A 2 _ 0 0 _ [(0, .ref (o 0)), (1, .int x1)] 0 []
  rw [F_X9_opens] at hf
  refine g_aln cx 0 dX9_opens_0 rfl ?_
  refine fg_RX9_9 cx 0 rfl rfl dX9_opens_1 ?_
  refine g_iln cx 1 dX9_opens_4 rfl ?_
  refine ob hf (fun q_1 hq_1 hf => ?_)
  refine g_callSiR cx lk_RX9_51 (c_X6_at l D cB cI cJ cZ (o 1) 8 (s9_states s_o) x1 q_1 hq_1) rfl [1] rfl rfl rfl (Nat.le_of_ble_eq_true rfl) ⟨rfl, rfl, Nat.le_of_ble_eq_true rfl, Nat.le_of_ble_eq_true rfl⟩ dX9_opens_5 ?_
  refine g_ic cx dX9_opens_8 k_ic1 ?_
  refine g_ic_ne (tgt := 16) cx hf dX9_opens_9 rfl (fun hf => ?_) (fun hf => ?_)
  · refine g_ic cx dX9_opens_16 k_ic0 ?_
    exact g_zret (ovf := fun (r : Int32) => (some (.int r))) (wf := fun (r : Int32) => (w_X9_opens o cB cI cJ cZ s_o)) cx hA hr rfl hf rfl rfl dX9_opens_17
  · refine g_ic cx dX9_opens_12 k_ic1 ?_
    refine g_goto (tgt := 17) cx dX9_opens_13 rfl ?_
    exact g_zret (ovf := fun (r : Int32) => (some (.int r))) (wf := fun (r : Int32) => (w_X9_opens o cB cI cJ cZ s_o)) cx hA hr rfl hf rfl rfl dX9_opens_17
theorem dX9_rhymed_0 : decode cX9_rhymed 0 = .ok (.aload_n 0, 1) := by decide +kernel
theorem dX9_rhymed_1 : decode cX9_rhymed 1 = .ok (.getfield 9, 3) := by decide +kernel
theorem dX9_rhymed_4 : decode cX9_rhymed 4 = .ok (.iload_n 1, 1) := by decide +kernel
theorem dX9_rhymed_5 : decode cX9_rhymed 5 = .ok (.invokestatic 51, 3) := by decide +kernel
theorem dX9_rhymed_8 : decode cX9_rhymed 8 = .ok (.iconst 2, 1) := by decide +kernel
theorem dX9_rhymed_9 : decode cX9_rhymed 9 = .ok (.if_icmp .ne 7, 3) := by decide +kernel
theorem dX9_rhymed_12 : decode cX9_rhymed 12 = .ok (.iconst 1, 1) := by decide +kernel
theorem dX9_rhymed_13 : decode cX9_rhymed 13 = .ok (.goto 4, 3) := by decide +kernel
theorem dX9_rhymed_16 : decode cX9_rhymed 16 = .ok (.iconst 0, 1) := by decide +kernel
theorem dX9_rhymed_17 : decode cX9_rhymed 17 = .ok (.ireturn, 1) := by decide +kernel


def F_X9_rhymed (s_o : S9) (x1 : Int32) : Option (Int32) := (F_X6_at 8 (s9_states s_o) x1).bind fun q_1 => (if q_1 = 2 then some (1) else some (0))
def w_X9_rhymed (o : Nat → Nat) (cB cI cJ cZ : ClassId) (s_o : S9) : va_W := List.flatten [(gX9 o cB cI cJ cZ s_o)]
abbrev rm_X9_rhymed : Room := { frames := 1, cells := 0, slots := 0, locals := 21 }
set_option maxHeartbeats 4000000 in
set_option maxRecDepth 100000 in
theorem c_X9_rhymed (l : Launch) (D : gG) (cB cI cJ cZ : ClassId) (o : Nat → Nat) (s_o : S9) (x1 : Int32) (r : Int32) (hf : F_X9_rhymed s_o x1 = some r) : gM l D (tyL cB cI cJ cZ) yX9_rhymed cX9_rhymed 2 (some .boolean) rm_X9_rhymed [.ref (o 0), .int x1] (w_X9_rhymed o cB cI cJ cZ s_o) (some (.int r)) (w_X9_rhymed o cB cI cJ cZ s_o) := by
  refine met_of (by decide) (Nat.le_of_ble_eq_true rfl) ?_
  intro p e s m args below meth c A cx hr hA
  show gW p l e rm_X9_rhymed s m args below meth c D A 2 _ 0 0 _ [(0, .ref (o 0)), (1, .int x1)] 0 []
  rw [F_X9_rhymed] at hf
  refine g_aln cx 0 dX9_rhymed_0 rfl ?_
  refine fg_RX9_9 cx 0 rfl rfl dX9_rhymed_1 ?_
  refine g_iln cx 1 dX9_rhymed_4 rfl ?_
  refine ob hf (fun q_1 hq_1 hf => ?_)
  refine g_callSiR cx lk_RX9_51 (c_X6_at l D cB cI cJ cZ (o 1) 8 (s9_states s_o) x1 q_1 hq_1) rfl [1] rfl rfl rfl (Nat.le_of_ble_eq_true rfl) ⟨rfl, rfl, Nat.le_of_ble_eq_true rfl, Nat.le_of_ble_eq_true rfl⟩ dX9_rhymed_5 ?_
  refine g_ic cx dX9_rhymed_8 k_ic2 ?_
  refine g_ic_ne (tgt := 16) cx hf dX9_rhymed_9 rfl (fun hf => ?_) (fun hf => ?_)
  · refine g_ic cx dX9_rhymed_16 k_ic0 ?_
    exact g_zret (ovf := fun (r : Int32) => (some (.int r))) (wf := fun (r : Int32) => (w_X9_rhymed o cB cI cJ cZ s_o)) cx hA hr rfl hf rfl rfl dX9_rhymed_17
  · refine g_ic cx dX9_rhymed_12 k_ic1 ?_
    refine g_goto (tgt := 17) cx dX9_rhymed_13 rfl ?_
    exact g_zret (ovf := fun (r : Int32) => (some (.int r))) (wf := fun (r : Int32) => (w_X9_rhymed o cB cI cJ cZ s_o)) cx hA hr rfl hf rfl rfl dX9_rhymed_17
theorem dX9_binds_0 : decode cX9_binds 0 = .ok (.aload_n 0, 1) := by decide +kernel
theorem dX9_binds_1 : decode cX9_binds 1 = .ok (.getfield 30, 3) := by decide +kernel
theorem dX9_binds_4 : decode cX9_binds 4 = .ok (.iload_n 1, 1) := by decide +kernel
theorem dX9_binds_5 : decode cX9_binds 5 = .ok (.ishr, 1) := by decide +kernel
theorem dX9_binds_6 : decode cX9_binds 6 = .ok (.iconst 1, 1) := by decide +kernel
theorem dX9_binds_7 : decode cX9_binds 7 = .ok (.iand, 1) := by decide +kernel
theorem dX9_binds_8 : decode cX9_binds 8 = .ok (.ifCond .eq 7, 3) := by decide +kernel
theorem dX9_binds_11 : decode cX9_binds 11 = .ok (.iconst 1, 1) := by decide +kernel
theorem dX9_binds_12 : decode cX9_binds 12 = .ok (.goto 4, 3) := by decide +kernel
theorem dX9_binds_15 : decode cX9_binds 15 = .ok (.iconst 0, 1) := by decide +kernel
theorem dX9_binds_16 : decode cX9_binds 16 = .ok (.ireturn, 1) := by decide +kernel


def F_X9_binds (s_o : S9) (x1 : Int32) : Option (Int32) := (if (((s9_binding s_o) >>> (x1 &&& 31)) &&& 1) = 0 then some (0) else some (1))
def w_X9_binds (o : Nat → Nat) (cB cI cJ cZ : ClassId) (s_o : S9) : va_W := List.flatten [(gX9 o cB cI cJ cZ s_o)]
abbrev rm_X9_binds : Room := { frames := 0, cells := 0, slots := 0, locals := 0 }
set_option maxHeartbeats 4000000 in
set_option maxRecDepth 100000 in
theorem c_X9_binds (l : Launch) (D : gG) (cB cI cJ cZ : ClassId) (o : Nat → Nat) (s_o : S9) (x1 : Int32) (r : Int32) (hf : F_X9_binds s_o x1 = some r) : gM l D (tyL cB cI cJ cZ) yX9_binds cX9_binds 2 (some .boolean) rm_X9_binds [.ref (o 0), .int x1] (w_X9_binds o cB cI cJ cZ s_o) (some (.int r)) (w_X9_binds o cB cI cJ cZ s_o) := by
  refine met_of (by decide) (Nat.le_of_ble_eq_true rfl) ?_
  intro p e s m args below meth c A cx hr hA
  show gW p l e rm_X9_binds s m args below meth c D A 2 _ 0 0 _ [(0, .ref (o 0)), (1, .int x1)] 0 []
  rw [F_X9_binds] at hf
  refine g_aln cx 0 dX9_binds_0 rfl ?_
  refine fg_RX9_30 cx 0 rfl rfl dX9_binds_1 ?_
  refine g_iln cx 1 dX9_binds_4 rfl ?_
  refine g_ishr cx dX9_binds_5 ?_
  refine g_ic cx dX9_binds_6 k_ic1 ?_
  refine g_iand cx dX9_binds_7 ?_
  refine g_if_eq (tgt := 15) cx hf dX9_binds_8 rfl (fun hf => ?_) (fun hf => ?_)
  · refine g_ic cx dX9_binds_15 k_ic0 ?_
    exact g_zret (ovf := fun (r : Int32) => (some (.int r))) (wf := fun (r : Int32) => (w_X9_binds o cB cI cJ cZ s_o)) cx hA hr rfl hf rfl rfl dX9_binds_16
  · refine g_ic cx dX9_binds_11 k_ic1 ?_
    refine g_goto (tgt := 16) cx dX9_binds_12 rfl ?_
    exact g_zret (ovf := fun (r : Int32) => (some (.int r))) (wf := fun (r : Int32) => (w_X9_binds o cB cI cJ cZ s_o)) cx hA hr rfl hf rfl rfl dX9_binds_16
theorem dX9_anchor_0 : decode cX9_anchor 0 = .ok (.aload_n 0, 1) := by decide +kernel
theorem dX9_anchor_1 : decode cX9_anchor 1 = .ok (.getfield 15, 3) := by decide +kernel
theorem dX9_anchor_4 : decode cX9_anchor 4 = .ok (.iload_n 1, 1) := by decide +kernel
theorem dX9_anchor_5 : decode cX9_anchor 5 = .ok (.invokestatic 51, 3) := by decide +kernel
theorem dX9_anchor_8 : decode cX9_anchor 8 = .ok (.ireturn, 1) := by decide +kernel


def F_X9_anchor (s_o : S9) (x1 : Int32) : Option (Int32) := (F_X6_at 8 (s9_anchors s_o) x1).bind fun q_1 => some (q_1)
def w_X9_anchor (o : Nat → Nat) (cB cI cJ cZ : ClassId) (s_o : S9) : va_W := List.flatten [(gX9 o cB cI cJ cZ s_o)]
abbrev rm_X9_anchor : Room := { frames := 1, cells := 0, slots := 0, locals := 21 }
set_option maxHeartbeats 4000000 in
set_option maxRecDepth 100000 in
theorem c_X9_anchor (l : Launch) (D : gG) (cB cI cJ cZ : ClassId) (o : Nat → Nat) (s_o : S9) (x1 : Int32) (r : Int32) (hf : F_X9_anchor s_o x1 = some r) : gM l D (tyL cB cI cJ cZ) yX9_anchor cX9_anchor 2 (some .int) rm_X9_anchor [.ref (o 0), .int x1] (w_X9_anchor o cB cI cJ cZ s_o) (some (.int r)) (w_X9_anchor o cB cI cJ cZ s_o) := by
  refine met_of (by decide) (Nat.le_of_ble_eq_true rfl) ?_
  intro p e s m args below meth c A cx hr hA
  show gW p l e rm_X9_anchor s m args below meth c D A 2 _ 0 0 _ [(0, .ref (o 0)), (1, .int x1)] 0 []
  rw [F_X9_anchor] at hf
  refine g_aln cx 0 dX9_anchor_0 rfl ?_
  refine fg_RX9_15 cx 0 rfl rfl dX9_anchor_1 ?_
  refine g_iln cx 1 dX9_anchor_4 rfl ?_
  refine ob hf (fun q_1 hq_1 hf => ?_)
  refine g_callSiR cx lk_RX9_51 (c_X6_at l D cB cI cJ cZ (o 2) 8 (s9_anchors s_o) x1 q_1 hq_1) rfl [2] rfl rfl rfl (Nat.le_of_ble_eq_true rfl) ⟨rfl, rfl, Nat.le_of_ble_eq_true rfl, Nat.le_of_ble_eq_true rfl⟩ dX9_anchor_5 ?_
  exact g_iret (ovf := fun (r : Int32) => (some (.int r))) (wf := fun (r : Int32) => (w_X9_anchor o cB cI cJ cZ s_o)) cx hA hr hf rfl rfl dX9_anchor_8
theorem dX9_isLaw_0 : decode cX9_isLaw 0 = .ok (.aload_n 0, 1) := by decide +kernel
theorem dX9_isLaw_1 : decode cX9_isLaw 1 = .ok (.getfield 27, 3) := by decide +kernel
theorem dX9_isLaw_4 : decode cX9_isLaw 4 = .ok (.ifCond .le 22, 3) := by decide +kernel
theorem dX9_isLaw_7 : decode cX9_isLaw 7 = .ok (.aload_n 0, 1) := by decide +kernel
theorem dX9_isLaw_8 : decode cX9_isLaw 8 = .ok (.getfield 30, 3) := by decide +kernel
theorem dX9_isLaw_11 : decode cX9_isLaw 11 = .ok (.iconst 1, 1) := by decide +kernel
theorem dX9_isLaw_12 : decode cX9_isLaw 12 = .ok (.aload_n 0, 1) := by decide +kernel
theorem dX9_isLaw_13 : decode cX9_isLaw 13 = .ok (.getfield 27, 3) := by decide +kernel
theorem dX9_isLaw_16 : decode cX9_isLaw 16 = .ok (.ishl, 1) := by decide +kernel
theorem dX9_isLaw_17 : decode cX9_isLaw 17 = .ok (.iconst 1, 1) := by decide +kernel
theorem dX9_isLaw_18 : decode cX9_isLaw 18 = .ok (.isub, 1) := by decide +kernel
theorem dX9_isLaw_19 : decode cX9_isLaw 19 = .ok (.if_icmp .ne 7, 3) := by decide +kernel
theorem dX9_isLaw_22 : decode cX9_isLaw 22 = .ok (.iconst 1, 1) := by decide +kernel
theorem dX9_isLaw_23 : decode cX9_isLaw 23 = .ok (.goto 4, 3) := by decide +kernel
theorem dX9_isLaw_26 : decode cX9_isLaw 26 = .ok (.iconst 0, 1) := by decide +kernel
theorem dX9_isLaw_27 : decode cX9_isLaw 27 = .ok (.ireturn, 1) := by decide +kernel


def F_X9_isLaw (s_o : S9) : Option (Int32) := (if (s9_size s_o) ≤ 0 then some (0) else (if (s9_binding s_o) = ((1 <<< ((s9_size s_o) &&& 31)) - 1) then some (1) else some (0)))
def w_X9_isLaw (o : Nat → Nat) (cB cI cJ cZ : ClassId) (s_o : S9) : va_W := List.flatten [(gX9 o cB cI cJ cZ s_o)]
abbrev rm_X9_isLaw : Room := { frames := 0, cells := 0, slots := 0, locals := 0 }
set_option maxHeartbeats 4000000 in
set_option maxRecDepth 100000 in
theorem c_X9_isLaw (l : Launch) (D : gG) (cB cI cJ cZ : ClassId) (o : Nat → Nat) (s_o : S9) (r : Int32) (hf : F_X9_isLaw s_o = some r) : gM l D (tyL cB cI cJ cZ) yX9_isLaw cX9_isLaw 1 (some .boolean) rm_X9_isLaw [.ref (o 0)] (w_X9_isLaw o cB cI cJ cZ s_o) (some (.int r)) (w_X9_isLaw o cB cI cJ cZ s_o) := by
  refine met_of (by decide) (Nat.le_of_ble_eq_true rfl) ?_
  intro p e s m args below meth c A cx hr hA
  show gW p l e rm_X9_isLaw s m args below meth c D A 1 _ 0 0 _ [(0, .ref (o 0))] 0 []
  rw [F_X9_isLaw] at hf
  refine g_aln cx 0 dX9_isLaw_0 rfl ?_
  refine fg_RX9_27 cx 0 rfl rfl dX9_isLaw_1 ?_
  refine g_if_le (tgt := 26) cx hf dX9_isLaw_4 rfl (fun hf => ?_) (fun hf => ?_)
  · refine g_ic cx dX9_isLaw_26 k_ic0 ?_
    exact g_zret (ovf := fun (r : Int32) => (some (.int r))) (wf := fun (r : Int32) => (w_X9_isLaw o cB cI cJ cZ s_o)) cx hA hr rfl hf rfl rfl dX9_isLaw_27
  · refine g_aln cx 0 dX9_isLaw_7 rfl ?_
    refine fg_RX9_30 cx 0 rfl rfl dX9_isLaw_8 ?_
    refine g_ic cx dX9_isLaw_11 k_ic1 ?_
    refine g_aln cx 0 dX9_isLaw_12 rfl ?_
    refine fg_RX9_27 cx 0 rfl rfl dX9_isLaw_13 ?_
    refine g_ishl cx dX9_isLaw_16 ?_
    refine g_ic cx dX9_isLaw_17 k_ic1 ?_
    refine g_isub cx dX9_isLaw_18 ?_
    refine g_ic_ne (tgt := 26) cx hf dX9_isLaw_19 rfl (fun hf => ?_) (fun hf => ?_)
    · refine g_ic cx dX9_isLaw_26 k_ic0 ?_
      exact g_zret (ovf := fun (r : Int32) => (some (.int r))) (wf := fun (r : Int32) => (w_X9_isLaw o cB cI cJ cZ s_o)) cx hA hr rfl hf rfl rfl dX9_isLaw_27
    · refine g_ic cx dX9_isLaw_22 k_ic1 ?_
      refine g_goto (tgt := 27) cx dX9_isLaw_23 rfl ?_
      exact g_zret (ovf := fun (r : Int32) => (some (.int r))) (wf := fun (r : Int32) => (w_X9_isLaw o cB cI cJ cZ s_o)) cx hA hr rfl hf rfl rfl dX9_isLaw_27
theorem dX9_firstLoose_0 : decode cX9_firstLoose 0 = .ok (.iconst 0, 1) := by decide +kernel
theorem dX9_firstLoose_1 : decode cX9_firstLoose 1 = .ok (.istore_n 1, 1) := by decide +kernel
theorem dX9_firstLoose_2 : decode cX9_firstLoose 2 = .ok (.iload_n 1, 1) := by decide +kernel
theorem dX9_firstLoose_3 : decode cX9_firstLoose 3 = .ok (.aload_n 0, 1) := by decide +kernel
theorem dX9_firstLoose_4 : decode cX9_firstLoose 4 = .ok (.getfield 27, 3) := by decide +kernel
theorem dX9_firstLoose_7 : decode cX9_firstLoose 7 = .ok (.if_icmp .ge 19, 3) := by decide +kernel
theorem dX9_firstLoose_10 : decode cX9_firstLoose 10 = .ok (.aload_n 0, 1) := by decide +kernel
theorem dX9_firstLoose_11 : decode cX9_firstLoose 11 = .ok (.iload_n 1, 1) := by decide +kernel
theorem dX9_firstLoose_12 : decode cX9_firstLoose 12 = .ok (.invokevirtual 85, 3) := by decide +kernel
theorem dX9_firstLoose_15 : decode cX9_firstLoose 15 = .ok (.ifCond .ne 5, 3) := by decide +kernel
theorem dX9_firstLoose_18 : decode cX9_firstLoose 18 = .ok (.iload_n 1, 1) := by decide +kernel
theorem dX9_firstLoose_19 : decode cX9_firstLoose 19 = .ok (.ireturn, 1) := by decide +kernel
theorem dX9_firstLoose_20 : decode cX9_firstLoose 20 = .ok (.iinc 1 1, 3) := by decide +kernel
theorem dX9_firstLoose_23 : decode cX9_firstLoose 23 = .ok (.goto (-21), 3) := by decide +kernel
theorem dX9_firstLoose_26 : decode cX9_firstLoose 26 = .ok (.bipush (-9), 2) := by decide +kernel
theorem dX9_firstLoose_28 : decode cX9_firstLoose 28 = .ok (.ireturn, 1) := by decide +kernel
theorem k_bpm9 : (Int8.ofInt (-9)).toInt32 = (-9) := by decide
theorem q3_154 : Cond.instanceMethod yX9_binds ∈ TT := tq3 154 rfl rfl
theorem q3_155 : Cond.selects RX9 yX9_binds yX9_binds ∈ TT := tq3 155 rfl rfl
theorem q3_156 : Cond.code yX9_binds cX9_binds 2 (some .boolean) ∈ TT := tq3 156 rfl rfl
theorem q3_181 : Cond.methodLink RX9 85 yX9_binds ∈ TT := tq3 181 rfl rfl
theorem lk_RX9_85 : vlk RX9 85 yX9_binds cX9_binds 2 (some .boolean) 1 := ⟨List.forall_mem_cons.mpr ⟨q3_181, List.forall_mem_cons.mpr ⟨q3_154, List.forall_mem_cons.mpr ⟨q3_155, List.forall_mem_cons.mpr ⟨q1_3, fun _ h => absurd h List.not_mem_nil⟩⟩⟩⟩, q3_156, by decide, by decide, by decide +kernel⟩
def F_X9_firstLoose_b2 (s_o : S9) : Nat → Int32 → Option (Int32)
  | 0, _ => none
  | n + 1, v1 => (if (s9_size s_o) ≤ v1 then some ((-9)) else (F_X9_binds s_o v1).bind fun q_1 => (if q_1 = 0 then some (v1) else nm (v1 + 1) fun v1_2 => (F_X9_firstLoose_b2 s_o n) v1_2))
def F_X9_firstLoose (s_o : S9) : Option (Int32) := nm 0 fun v1_3 => F_X9_firstLoose_b2 s_o fu v1_3
def w_X9_firstLoose (o : Nat → Nat) (cB cI cJ cZ : ClassId) (s_o : S9) : va_W := List.flatten [(gX9 o cB cI cJ cZ s_o)]
abbrev rm_X9_firstLoose : Room := { frames := 1, cells := 0, slots := 0, locals := 21 }
set_option maxHeartbeats 4000000 in
set_option maxRecDepth 100000 in
theorem c_X9_firstLoose (l : Launch) (D : gG) (cB cI cJ cZ : ClassId) (o : Nat → Nat) (s_o : S9) (r : Int32) (hf : F_X9_firstLoose s_o = some r) : gM l D (tyL cB cI cJ cZ) yX9_firstLoose cX9_firstLoose 2 (some .int) rm_X9_firstLoose [.ref (o 0)] (w_X9_firstLoose o cB cI cJ cZ s_o) (some (.int r)) (w_X9_firstLoose o cB cI cJ cZ s_o) := by
  refine met_of (by decide) (Nat.le_of_ble_eq_true rfl) ?_
  intro p e s m args below meth c A cx hr hA
  show gW p l e rm_X9_firstLoose s m args below meth c D A 2 _ 0 0 _ [(0, .ref (o 0))] 0 []
  have h2 : ∀ (n : Nat) (v1 : Int32), F_X9_firstLoose_b2 s_o n v1 = some r → gW p l e rm_X9_firstLoose s m args below meth c D A 2 (MQ below (QM D (tyL cB cI cJ cZ) (some (.int r)) (w_X9_firstLoose o cB cI cJ cZ s_o) (w_X9_firstLoose o cB cI cJ cZ s_o) s.heap.size) args s 0 0 A) 0 0 (w_X9_firstLoose o cB cI cJ cZ s_o) [(0, .ref (o 0)), (1, .int v1)] 2 [] := by
    intro n
    induction n with
    | zero => intro v1 hf; rw [F_X9_firstLoose_b2] at hf; cases hf
    | succ n ih =>
      intro v1 hf
      rw [F_X9_firstLoose_b2] at hf
      refine g_iln cx 1 dX9_firstLoose_2 rfl ?_
      refine g_aln cx 0 dX9_firstLoose_3 rfl ?_
      refine fg_RX9_27 cx 0 rfl rfl dX9_firstLoose_4 ?_
      refine g_ic_ge (tgt := 26) cx hf dX9_firstLoose_7 rfl (fun hf => ?_) (fun hf => ?_)
      · refine g_bp cx dX9_firstLoose_26 k_bpm9 ?_
        exact g_iret (ovf := fun (r : Int32) => (some (.int r))) (wf := fun (r : Int32) => (w_X9_firstLoose o cB cI cJ cZ s_o)) cx hA hr hf rfl rfl dX9_firstLoose_28
      · refine g_aln cx 0 dX9_firstLoose_10 rfl ?_
        refine g_iln cx 1 dX9_firstLoose_11 rfl ?_
        refine ob hf (fun q_1 hq_1 hf => ?_)
        refine g_callVGiR cx lk_RX9_85 (c_X9_binds l D cB cI cJ cZ o s_o v1 q_1 hq_1) rfl [0] rfl rfl (ci := 7) (q1 := 0) rfl rfl rfl (Nat.le_of_ble_eq_true rfl) ⟨rfl, rfl, Nat.le_of_ble_eq_true rfl, Nat.le_of_ble_eq_true rfl⟩ dX9_firstLoose_12 ?_
        refine g_if_ne (tgt := 20) cx hf dX9_firstLoose_15 rfl (fun hf => ?_) (fun hf => ?_)
        · refine g_inc cx (L2 := fun v1_2 => [(1, .int v1_2), (0, .ref (o 0))]) 1 hf dX9_firstLoose_20 rfl (k_inc1 _) (Nat.le_of_ble_eq_true rfl) (fun _ => rfl) (fun v1_2 hf => ?_)
          refine g_goto (tgt := 2) cx dX9_firstLoose_23 rfl ?_
          refine g_sub [1, 0] rfl ?_
          exact ih _ hf
        · refine g_iln cx 1 dX9_firstLoose_18 rfl ?_
          exact g_iret (ovf := fun (r : Int32) => (some (.int r))) (wf := fun (r : Int32) => (w_X9_firstLoose o cB cI cJ cZ s_o)) cx hA hr hf rfl rfl dX9_firstLoose_19
  rw [F_X9_firstLoose] at hf
  refine g_ic cx dX9_firstLoose_0 k_ic0 ?_
  refine g_isn cx (L2 := fun v1_3 => [(1, .int v1_3), (0, .ref (o 0))]) hf dX9_firstLoose_1 (Nat.le_of_ble_eq_true rfl) (fun _ => rfl) (fun v1_3 hf => ?_)
  refine g_sub [1, 0] rfl ?_
  exact h2 fu _ hf
theorem dX9_thingsOf_0 : decode cX9_thingsOf 0 = .ok (.iconst 0, 1) := by decide +kernel
theorem dX9_thingsOf_1 : decode cX9_thingsOf 1 = .ok (.istore_n 2, 1) := by decide +kernel
theorem dX9_thingsOf_2 : decode cX9_thingsOf 2 = .ok (.iconst 0, 1) := by decide +kernel
theorem dX9_thingsOf_3 : decode cX9_thingsOf 3 = .ok (.istore_n 3, 1) := by decide +kernel
theorem dX9_thingsOf_4 : decode cX9_thingsOf 4 = .ok (.iload_n 3, 1) := by decide +kernel
theorem dX9_thingsOf_5 : decode cX9_thingsOf 5 = .ok (.aload_n 0, 1) := by decide +kernel
theorem dX9_thingsOf_6 : decode cX9_thingsOf 6 = .ok (.getfield 27, 3) := by decide +kernel
theorem dX9_thingsOf_9 : decode cX9_thingsOf 9 = .ok (.if_icmp .ge 27, 3) := by decide +kernel
theorem dX9_thingsOf_12 : decode cX9_thingsOf 12 = .ok (.aload_n 0, 1) := by decide +kernel
theorem dX9_thingsOf_13 : decode cX9_thingsOf 13 = .ok (.iload_n 3, 1) := by decide +kernel
theorem dX9_thingsOf_14 : decode cX9_thingsOf 14 = .ok (.invokevirtual 85, 3) := by decide +kernel
theorem dX9_thingsOf_17 : decode cX9_thingsOf 17 = .ok (.ifCond .eq 13, 3) := by decide +kernel
theorem dX9_thingsOf_20 : decode cX9_thingsOf 20 = .ok (.iload_n 2, 1) := by decide +kernel
theorem dX9_thingsOf_21 : decode cX9_thingsOf 21 = .ok (.iconst 1, 1) := by decide +kernel
theorem dX9_thingsOf_22 : decode cX9_thingsOf 22 = .ok (.aload_n 1, 1) := by decide +kernel
theorem dX9_thingsOf_23 : decode cX9_thingsOf 23 = .ok (.iload_n 3, 1) := by decide +kernel
theorem dX9_thingsOf_24 : decode cX9_thingsOf 24 = .ok (.invokevirtual 89, 3) := by decide +kernel
theorem dX9_thingsOf_27 : decode cX9_thingsOf 27 = .ok (.ishl, 1) := by decide +kernel
theorem dX9_thingsOf_28 : decode cX9_thingsOf 28 = .ok (.ior, 1) := by decide +kernel
theorem dX9_thingsOf_29 : decode cX9_thingsOf 29 = .ok (.istore_n 2, 1) := by decide +kernel
theorem dX9_thingsOf_30 : decode cX9_thingsOf 30 = .ok (.iinc 3 1, 3) := by decide +kernel
theorem dX9_thingsOf_33 : decode cX9_thingsOf 33 = .ok (.goto (-29), 3) := by decide +kernel
theorem dX9_thingsOf_36 : decode cX9_thingsOf 36 = .ok (.iload_n 2, 1) := by decide +kernel
theorem dX9_thingsOf_37 : decode cX9_thingsOf 37 = .ok (.ireturn, 1) := by decide +kernel
theorem q3_190 : Cond.methodLink RX9 89 yX4_thingAt ∈ TT := tq3 190 rfl rfl
theorem lk_RX9_89 : vlk RX9 89 yX4_thingAt cX4_thingAt 2 (some .int) 1 := ⟨List.forall_mem_cons.mpr ⟨q3_190, List.forall_mem_cons.mpr ⟨q3_5, List.forall_mem_cons.mpr ⟨q3_6, List.forall_mem_cons.mpr ⟨q1_4, fun _ h => absurd h List.not_mem_nil⟩⟩⟩⟩, q3_7, by decide, by decide, by decide +kernel⟩
def F_X9_thingsOf_b30 (s_a1 : S4) (s_o : S9) (K4 : Int32 → Int32 → Option (Int32)) (v2 : Int32) (v3 : Int32) : Option (Int32) := nm (v3 + 1) fun v3_1 => K4 v2 v3_1
def F_X9_thingsOf_b4 (s_a1 : S4) (s_o : S9) : Nat → Int32 → Int32 → Option (Int32)
  | 0, _, _ => none
  | n + 1, v2, v3 => (if (s9_size s_o) ≤ v3 then some (v2) else (F_X9_binds s_o v3).bind fun q_2 => (if q_2 = 0 then F_X9_thingsOf_b30 s_a1 s_o (F_X9_thingsOf_b4 s_a1 s_o n) v2 v3 else (F_X4_thingAt s_a1 v3).bind fun q_3 => nm (v2 ||| (1 <<< (q_3 &&& 31))) fun v2_4 => F_X9_thingsOf_b30 s_a1 s_o (F_X9_thingsOf_b4 s_a1 s_o n) v2_4 v3))
def F_X9_thingsOf (s_a1 : S4) (s_o : S9) : Option (Int32) := nm 0 fun v2_5 => nm 0 fun v3_6 => F_X9_thingsOf_b4 s_a1 s_o fu v2_5 v3_6
def w_X9_thingsOf (a1 o : Nat → Nat) (cB cI cJ cZ : ClassId) (s_a1 : S4) (s_o : S9) : va_W := List.flatten [(gX4 a1 cB cI cJ cZ s_a1), (gX9 o cB cI cJ cZ s_o)]
abbrev rm_X9_thingsOf : Room := { frames := 2, cells := 0, slots := 0, locals := 42 }
set_option maxHeartbeats 4000000 in
set_option maxRecDepth 100000 in
theorem c_X9_thingsOf (l : Launch) (D : gG) (cB cI cJ cZ : ClassId) (a1 o : Nat → Nat) (s_a1 : S4) (s_o : S9) (r : Int32) (hf : F_X9_thingsOf s_a1 s_o = some r) : gM l D (tyL cB cI cJ cZ) yX9_thingsOf cX9_thingsOf 4 (some .int) rm_X9_thingsOf [.ref (o 0), .ref (a1 0)] (w_X9_thingsOf a1 o cB cI cJ cZ s_a1 s_o) (some (.int r)) (w_X9_thingsOf a1 o cB cI cJ cZ s_a1 s_o) := by
  refine met_of (by decide) (Nat.le_of_ble_eq_true rfl) ?_
  intro p e s m args below meth c A cx hr hA
  show gW p l e rm_X9_thingsOf s m args below meth c D A 4 _ 0 0 _ [(0, .ref (o 0)), (1, .ref (a1 0))] 0 []
  have h30 : ∀ (K4 : Int32 → Int32 → Option (Int32)), (∀ (v2 : Int32) (v3 : Int32), K4 v2 v3 = some r → gW p l e rm_X9_thingsOf s m args below meth c D A 4 (MQ below (QM D (tyL cB cI cJ cZ) (some (.int r)) (w_X9_thingsOf a1 o cB cI cJ cZ s_a1 s_o) (w_X9_thingsOf a1 o cB cI cJ cZ s_a1 s_o) s.heap.size) args s 0 0 A) 0 0 (w_X9_thingsOf a1 o cB cI cJ cZ s_a1 s_o) [(0, .ref (o 0)), (1, .ref (a1 0)), (2, .int v2), (3, .int v3)] 4 []) → ∀ (v2 : Int32) (v3 : Int32), F_X9_thingsOf_b30 s_a1 s_o K4 v2 v3 = some r → gW p l e rm_X9_thingsOf s m args below meth c D A 4 (MQ below (QM D (tyL cB cI cJ cZ) (some (.int r)) (w_X9_thingsOf a1 o cB cI cJ cZ s_a1 s_o) (w_X9_thingsOf a1 o cB cI cJ cZ s_a1 s_o) s.heap.size) args s 0 0 A) 0 0 (w_X9_thingsOf a1 o cB cI cJ cZ s_a1 s_o) [(0, .ref (o 0)), (1, .ref (a1 0)), (2, .int v2), (3, .int v3)] 30 [] := by
    intro K4 kh4 v2 v3 hf
    rw [F_X9_thingsOf_b30] at hf
    refine g_inc cx (L2 := fun v3_1 => [(3, .int v3_1), (0, .ref (o 0)), (1, .ref (a1 0)), (2, .int v2)]) 3 hf dX9_thingsOf_30 rfl (k_inc1 _) (Nat.le_of_ble_eq_true rfl) (fun _ => rfl) (fun v3_1 hf => ?_)
    refine g_goto (tgt := 4) cx dX9_thingsOf_33 rfl ?_
    refine g_sub [1, 2, 3, 0] rfl ?_
    exact kh4 _ _ hf
  have h4 : ∀ (n : Nat) (v2 : Int32) (v3 : Int32), F_X9_thingsOf_b4 s_a1 s_o n v2 v3 = some r → gW p l e rm_X9_thingsOf s m args below meth c D A 4 (MQ below (QM D (tyL cB cI cJ cZ) (some (.int r)) (w_X9_thingsOf a1 o cB cI cJ cZ s_a1 s_o) (w_X9_thingsOf a1 o cB cI cJ cZ s_a1 s_o) s.heap.size) args s 0 0 A) 0 0 (w_X9_thingsOf a1 o cB cI cJ cZ s_a1 s_o) [(0, .ref (o 0)), (1, .ref (a1 0)), (2, .int v2), (3, .int v3)] 4 [] := by
    intro n
    induction n with
    | zero => intro v2 v3 hf; rw [F_X9_thingsOf_b4] at hf; cases hf
    | succ n ih =>
      intro v2 v3 hf
      rw [F_X9_thingsOf_b4] at hf
      refine g_iln cx 3 dX9_thingsOf_4 rfl ?_
      refine g_aln cx 0 dX9_thingsOf_5 rfl ?_
      refine fg_RX9_27 cx 4 rfl rfl dX9_thingsOf_6 ?_
      refine g_ic_ge (tgt := 36) cx hf dX9_thingsOf_9 rfl (fun hf => ?_) (fun hf => ?_)
      · refine g_iln cx 2 dX9_thingsOf_36 rfl ?_
        exact g_iret (ovf := fun (r : Int32) => (some (.int r))) (wf := fun (r : Int32) => (w_X9_thingsOf a1 o cB cI cJ cZ s_a1 s_o)) cx hA hr hf rfl rfl dX9_thingsOf_37
      · refine g_aln cx 0 dX9_thingsOf_12 rfl ?_
        refine g_iln cx 3 dX9_thingsOf_13 rfl ?_
        refine ob hf (fun q_2 hq_2 hf => ?_)
        refine g_callVGiR cx lk_RX9_85 (c_X9_binds l D cB cI cJ cZ o s_o v3 q_2 hq_2) rfl [1] rfl rfl (ci := 7) (q1 := 0) rfl rfl rfl (Nat.le_of_ble_eq_true rfl) ⟨rfl, rfl, Nat.le_of_ble_eq_true rfl, Nat.le_of_ble_eq_true rfl⟩ dX9_thingsOf_14 ?_
        refine g_if_eq (tgt := 30) cx hf dX9_thingsOf_17 rfl (fun hf => ?_) (fun hf => ?_)
        · exact h30 _ ih _ _ hf
        · refine g_iln cx 2 dX9_thingsOf_20 rfl ?_
          refine g_ic cx dX9_thingsOf_21 k_ic1 ?_
          refine g_aln cx 1 dX9_thingsOf_22 rfl ?_
          refine g_iln cx 3 dX9_thingsOf_23 rfl ?_
          refine ob hf (fun q_3 hq_3 hf => ?_)
          refine g_callVGiR cx lk_RX9_89 (c_X4_thingAt l D cB cI cJ cZ a1 s_a1 v3 q_3 hq_3) rfl [0] rfl rfl (ci := 4) (q1 := 0) rfl rfl rfl (Nat.le_of_ble_eq_true rfl) ⟨rfl, rfl, Nat.le_of_ble_eq_true rfl, Nat.le_of_ble_eq_true rfl⟩ dX9_thingsOf_24 ?_
          refine g_ishl cx dX9_thingsOf_27 ?_
          refine g_ior cx dX9_thingsOf_28 ?_
          refine g_isn cx (L2 := fun v2_4 => [(2, .int v2_4), (0, .ref (o 0)), (1, .ref (a1 0)), (3, .int v3)]) hf dX9_thingsOf_29 (Nat.le_of_ble_eq_true rfl) (fun _ => rfl) (fun v2_4 hf => ?_)
          refine g_sub [1, 2, 0, 3] rfl ?_
          exact h30 _ ih _ _ hf
  rw [F_X9_thingsOf] at hf
  refine g_ic cx dX9_thingsOf_0 k_ic0 ?_
  refine g_isn cx (L2 := fun v2_5 => [(2, .int v2_5), (0, .ref (o 0)), (1, .ref (a1 0))]) hf dX9_thingsOf_1 (Nat.le_of_ble_eq_true rfl) (fun _ => rfl) (fun v2_5 hf => ?_)
  refine g_ic cx dX9_thingsOf_2 k_ic0 ?_
  refine g_isn cx (L2 := fun v3_6 => [(3, .int v3_6), (2, .int v2_5), (0, .ref (o 0)), (1, .ref (a1 0))]) hf dX9_thingsOf_3 (Nat.le_of_ble_eq_true rfl) (fun _ => rfl) (fun v3_6 hf => ?_)
  refine g_sub [2, 3, 1, 0] rfl ?_
  exact h4 fu _ _ hf
theorem dX9_left_0 : decode cX9_left 0 = .ok (.iconst 0, 1) := by decide +kernel
theorem dX9_left_1 : decode cX9_left 1 = .ok (.istore_n 2, 1) := by decide +kernel
theorem dX9_left_2 : decode cX9_left 2 = .ok (.iconst 0, 1) := by decide +kernel
theorem dX9_left_3 : decode cX9_left 3 = .ok (.istore_n 3, 1) := by decide +kernel
theorem dX9_left_4 : decode cX9_left 4 = .ok (.iconst 0, 1) := by decide +kernel
theorem dX9_left_5 : decode cX9_left 5 = .ok (.istore 4, 2) := by decide +kernel
theorem dX9_left_7 : decode cX9_left 7 = .ok (.iload 4, 2) := by decide +kernel
theorem dX9_left_9 : decode cX9_left 9 = .ok (.aload_n 0, 1) := by decide +kernel
theorem dX9_left_10 : decode cX9_left 10 = .ok (.getfield 27, 3) := by decide +kernel
theorem dX9_left_13 : decode cX9_left 13 = .ok (.if_icmp .ge 87, 3) := by decide +kernel
theorem dX9_left_16 : decode cX9_left 16 = .ok (.aload_n 0, 1) := by decide +kernel
theorem dX9_left_17 : decode cX9_left 17 = .ok (.iload 4, 2) := by decide +kernel
theorem dX9_left_19 : decode cX9_left 19 = .ok (.invokevirtual 92, 3) := by decide +kernel
theorem dX9_left_22 : decode cX9_left 22 = .ok (.ifCond .eq 20, 3) := by decide +kernel
theorem dX9_left_25 : decode cX9_left 25 = .ok (.iload_n 2, 1) := by decide +kernel
theorem dX9_left_26 : decode cX9_left 26 = .ok (.aload_n 0, 1) := by decide +kernel
theorem dX9_left_27 : decode cX9_left 27 = .ok (.iload 4, 2) := by decide +kernel
theorem dX9_left_29 : decode cX9_left 29 = .ok (.invokevirtual 95, 3) := by decide +kernel
theorem dX9_left_32 : decode cX9_left 32 = .ok (.ishr, 1) := by decide +kernel
theorem dX9_left_33 : decode cX9_left 33 = .ok (.iconst 1, 1) := by decide +kernel
theorem dX9_left_34 : decode cX9_left 34 = .ok (.iand, 1) := by decide +kernel
theorem dX9_left_35 : decode cX9_left 35 = .ok (.ifCond .eq 7, 3) := by decide +kernel
theorem dX9_left_38 : decode cX9_left 38 = .ok (.iconst 1, 1) := by decide +kernel
theorem dX9_left_39 : decode cX9_left 39 = .ok (.goto 4, 3) := by decide +kernel
theorem dX9_left_42 : decode cX9_left 42 = .ok (.iconst 0, 1) := by decide +kernel
theorem dX9_left_43 : decode cX9_left 43 = .ok (.istore 5, 2) := by decide +kernel
theorem dX9_left_45 : decode cX9_left 45 = .ok (.iload_n 1, 1) := by decide +kernel
theorem dX9_left_46 : decode cX9_left 46 = .ok (.iload 4, 2) := by decide +kernel
theorem dX9_left_48 : decode cX9_left 48 = .ok (.ishr, 1) := by decide +kernel
theorem dX9_left_49 : decode cX9_left 49 = .ok (.iconst 1, 1) := by decide +kernel
theorem dX9_left_50 : decode cX9_left 50 = .ok (.iand, 1) := by decide +kernel
theorem dX9_left_51 : decode cX9_left 51 = .ok (.ifCond .ne 8, 3) := by decide +kernel
theorem dX9_left_54 : decode cX9_left 54 = .ok (.iload 5, 2) := by decide +kernel
theorem dX9_left_56 : decode cX9_left 56 = .ok (.ifCond .eq 13, 3) := by decide +kernel
theorem dX9_left_59 : decode cX9_left 59 = .ok (.iload_n 2, 1) := by decide +kernel
theorem dX9_left_60 : decode cX9_left 60 = .ok (.iconst 1, 1) := by decide +kernel
theorem dX9_left_61 : decode cX9_left 61 = .ok (.iload 4, 2) := by decide +kernel
theorem dX9_left_63 : decode cX9_left 63 = .ok (.ishl, 1) := by decide +kernel
theorem dX9_left_64 : decode cX9_left 64 = .ok (.ior, 1) := by decide +kernel
theorem dX9_left_65 : decode cX9_left 65 = .ok (.istore_n 2, 1) := by decide +kernel
theorem dX9_left_66 : decode cX9_left 66 = .ok (.goto 28, 3) := by decide +kernel
theorem dX9_left_69 : decode cX9_left 69 = .ok (.aload_n 0, 1) := by decide +kernel
theorem dX9_left_70 : decode cX9_left 70 = .ok (.iload 4, 2) := by decide +kernel
theorem dX9_left_72 : decode cX9_left 72 = .ok (.invokevirtual 92, 3) := by decide +kernel
theorem dX9_left_75 : decode cX9_left 75 = .ok (.ifCond .eq 19, 3) := by decide +kernel
theorem dX9_left_78 : decode cX9_left 78 = .ok (.iload_n 3, 1) := by decide +kernel
theorem dX9_left_79 : decode cX9_left 79 = .ok (.iconst 1, 1) := by decide +kernel
theorem dX9_left_80 : decode cX9_left 80 = .ok (.iload 4, 2) := by decide +kernel
theorem dX9_left_82 : decode cX9_left 82 = .ok (.ishl, 1) := by decide +kernel
theorem dX9_left_83 : decode cX9_left 83 = .ok (.iconst 1, 1) := by decide +kernel
theorem dX9_left_84 : decode cX9_left 84 = .ok (.aload_n 0, 1) := by decide +kernel
theorem dX9_left_85 : decode cX9_left 85 = .ok (.iload 4, 2) := by decide +kernel
theorem dX9_left_87 : decode cX9_left 87 = .ok (.invokevirtual 95, 3) := by decide +kernel
theorem dX9_left_90 : decode cX9_left 90 = .ok (.ishl, 1) := by decide +kernel
theorem dX9_left_91 : decode cX9_left 91 = .ok (.ior, 1) := by decide +kernel
theorem dX9_left_92 : decode cX9_left 92 = .ok (.ior, 1) := by decide +kernel
theorem dX9_left_93 : decode cX9_left 93 = .ok (.istore_n 3, 1) := by decide +kernel
theorem dX9_left_94 : decode cX9_left 94 = .ok (.iinc 4 1, 3) := by decide +kernel
theorem dX9_left_97 : decode cX9_left 97 = .ok (.goto (-90), 3) := by decide +kernel
theorem dX9_left_100 : decode cX9_left 100 = .ok (.iload_n 3, 1) := by decide +kernel
theorem dX9_left_101 : decode cX9_left 101 = .ok (.ireturn, 1) := by decide +kernel
theorem q3_158 : Cond.instanceMethod yX9_rhymed ∈ TT := tq3 158 rfl rfl
theorem q3_159 : Cond.selects RX9 yX9_rhymed yX9_rhymed ∈ TT := tq3 159 rfl rfl
theorem q3_160 : Cond.code yX9_rhymed cX9_rhymed 2 (some .boolean) ∈ TT := tq3 160 rfl rfl
theorem q3_162 : Cond.instanceMethod yX9_anchor ∈ TT := tq3 162 rfl rfl
theorem q3_163 : Cond.selects RX9 yX9_anchor yX9_anchor ∈ TT := tq3 163 rfl rfl
theorem q3_164 : Cond.code yX9_anchor cX9_anchor 2 (some .int) ∈ TT := tq3 164 rfl rfl
theorem q3_199 : Cond.methodLink RX9 92 yX9_rhymed ∈ TT := tq3 199 rfl rfl
theorem q3_200 : Cond.methodLink RX9 95 yX9_anchor ∈ TT := tq3 200 rfl rfl
theorem lk_RX9_92 : vlk RX9 92 yX9_rhymed cX9_rhymed 2 (some .boolean) 1 := ⟨List.forall_mem_cons.mpr ⟨q3_199, List.forall_mem_cons.mpr ⟨q3_158, List.forall_mem_cons.mpr ⟨q3_159, List.forall_mem_cons.mpr ⟨q1_3, fun _ h => absurd h List.not_mem_nil⟩⟩⟩⟩, q3_160, by decide, by decide, by decide +kernel⟩
theorem lk_RX9_95 : vlk RX9 95 yX9_anchor cX9_anchor 2 (some .int) 1 := ⟨List.forall_mem_cons.mpr ⟨q3_200, List.forall_mem_cons.mpr ⟨q3_162, List.forall_mem_cons.mpr ⟨q3_163, List.forall_mem_cons.mpr ⟨q1_3, fun _ h => absurd h List.not_mem_nil⟩⟩⟩⟩, q3_164, by decide, by decide, by decide +kernel⟩
def F_X9_left_b94 (s_o : S9) (x1 : Int32) (K7 : Int32 → Int32 → Int32 → Option (Int32)) (v2 : Int32) (v3 : Int32) (v4 : Int32) : Option (Int32) := nm (v4 + 1) fun v4_1 => K7 v2 v3 v4_1
def F_X9_left_b59 (s_o : S9) (x1 : Int32) (K7 : Int32 → Int32 → Int32 → Option (Int32)) (v2 : Int32) (v3 : Int32) (v4 : Int32) : Option (Int32) := nm (v2 ||| (1 <<< (v4 &&& 31))) fun v2_2 => F_X9_left_b94 s_o x1 K7 v2_2 v3 v4
def F_X9_left_b43 (s_o : S9) (x1 : Int32) (K7 : Int32 → Int32 → Int32 → Option (Int32)) (v2 : Int32) (v3 : Int32) (v4 : Int32) (k0 : Int32) : Option (Int32) := nm k0 fun v5_3 => (if ((x1 >>> (v4 &&& 31)) &&& 1) = 0 then (if v5_3 = 0 then (F_X9_rhymed s_o v4).bind fun q_4 => (if q_4 = 0 then F_X9_left_b94 s_o x1 K7 v2 v3 v4 else (F_X9_anchor s_o v4).bind fun q_5 => nm (v3 ||| ((1 <<< (v4 &&& 31)) ||| (1 <<< (q_5 &&& 31)))) fun v3_6 => F_X9_left_b94 s_o x1 K7 v2 v3_6 v4) else F_X9_left_b59 s_o x1 K7 v2 v3 v4) else F_X9_left_b59 s_o x1 K7 v2 v3 v4)
def F_X9_left_b42 (s_o : S9) (x1 : Int32) (K7 : Int32 → Int32 → Int32 → Option (Int32)) (v2 : Int32) (v3 : Int32) (v4 : Int32) : Option (Int32) := F_X9_left_b43 s_o x1 K7 v2 v3 v4 0
def F_X9_left_b7 (s_o : S9) (x1 : Int32) : Nat → Int32 → Int32 → Int32 → Option (Int32)
  | 0, _, _, _ => none
  | n + 1, v2, v3, v4 => (if (s9_size s_o) ≤ v4 then some (v3) else (F_X9_rhymed s_o v4).bind fun q_7 => (if q_7 = 0 then F_X9_left_b42 s_o x1 (F_X9_left_b7 s_o x1 n) v2 v3 v4 else (F_X9_anchor s_o v4).bind fun q_8 => (if ((v2 >>> (q_8 &&& 31)) &&& 1) = 0 then F_X9_left_b42 s_o x1 (F_X9_left_b7 s_o x1 n) v2 v3 v4 else F_X9_left_b43 s_o x1 (F_X9_left_b7 s_o x1 n) v2 v3 v4 1)))
def F_X9_left (s_o : S9) (x1 : Int32) : Option (Int32) := nm 0 fun v2_9 => nm 0 fun v3_10 => nm 0 fun v4_11 => F_X9_left_b7 s_o x1 fu v2_9 v3_10 v4_11
def w_X9_left (o : Nat → Nat) (cB cI cJ cZ : ClassId) (s_o : S9) : va_W := List.flatten [(gX9 o cB cI cJ cZ s_o)]
abbrev rm_X9_left : Room := { frames := 2, cells := 0, slots := 0, locals := 42 }
set_option maxHeartbeats 4000000 in
set_option maxRecDepth 100000 in
theorem c_X9_left (l : Launch) (D : gG) (cB cI cJ cZ : ClassId) (o : Nat → Nat) (s_o : S9) (x1 : Int32) (r : Int32) (hf : F_X9_left s_o x1 = some r) : gM l D (tyL cB cI cJ cZ) yX9_left cX9_left 6 (some .int) rm_X9_left [.ref (o 0), .int x1] (w_X9_left o cB cI cJ cZ s_o) (some (.int r)) (w_X9_left o cB cI cJ cZ s_o) := by
  refine met_of (by decide) (Nat.le_of_ble_eq_true rfl) ?_
  intro p e s m args below meth c A cx hr hA
  show gW p l e rm_X9_left s m args below meth c D A 6 _ 0 0 _ [(0, .ref (o 0)), (1, .int x1)] 0 []
  have h94 : ∀ (K7 : Int32 → Int32 → Int32 → Option (Int32)), (∀ (v2 : Int32) (v3 : Int32) (v4 : Int32), K7 v2 v3 v4 = some r → gW p l e rm_X9_left s m args below meth c D A 6 (MQ below (QM D (tyL cB cI cJ cZ) (some (.int r)) (w_X9_left o cB cI cJ cZ s_o) (w_X9_left o cB cI cJ cZ s_o) s.heap.size) args s 0 0 A) 0 0 (w_X9_left o cB cI cJ cZ s_o) [(0, .ref (o 0)), (1, .int x1), (2, .int v2), (3, .int v3), (4, .int v4)] 7 []) → ∀ (v2 : Int32) (v3 : Int32) (v4 : Int32), F_X9_left_b94 s_o x1 K7 v2 v3 v4 = some r → gW p l e rm_X9_left s m args below meth c D A 6 (MQ below (QM D (tyL cB cI cJ cZ) (some (.int r)) (w_X9_left o cB cI cJ cZ s_o) (w_X9_left o cB cI cJ cZ s_o) s.heap.size) args s 0 0 A) 0 0 (w_X9_left o cB cI cJ cZ s_o) [(0, .ref (o 0)), (1, .int x1), (2, .int v2), (3, .int v3), (4, .int v4)] 94 [] := by
    intro K7 kh7 v2 v3 v4 hf
    rw [F_X9_left_b94] at hf
    refine g_inc cx (L2 := fun v4_1 => [(4, .int v4_1), (0, .ref (o 0)), (1, .int x1), (2, .int v2), (3, .int v3)]) 4 hf dX9_left_94 rfl (k_inc1 _) (Nat.le_of_ble_eq_true rfl) (fun _ => rfl) (fun v4_1 hf => ?_)
    refine g_goto (tgt := 7) cx dX9_left_97 rfl ?_
    refine g_sub [1, 2, 3, 4, 0] rfl ?_
    exact kh7 _ _ _ hf
  have h59 : ∀ (K7 : Int32 → Int32 → Int32 → Option (Int32)), (∀ (v2 : Int32) (v3 : Int32) (v4 : Int32), K7 v2 v3 v4 = some r → gW p l e rm_X9_left s m args below meth c D A 6 (MQ below (QM D (tyL cB cI cJ cZ) (some (.int r)) (w_X9_left o cB cI cJ cZ s_o) (w_X9_left o cB cI cJ cZ s_o) s.heap.size) args s 0 0 A) 0 0 (w_X9_left o cB cI cJ cZ s_o) [(0, .ref (o 0)), (1, .int x1), (2, .int v2), (3, .int v3), (4, .int v4)] 7 []) → ∀ (v2 : Int32) (v3 : Int32) (v4 : Int32), F_X9_left_b59 s_o x1 K7 v2 v3 v4 = some r → gW p l e rm_X9_left s m args below meth c D A 6 (MQ below (QM D (tyL cB cI cJ cZ) (some (.int r)) (w_X9_left o cB cI cJ cZ s_o) (w_X9_left o cB cI cJ cZ s_o) s.heap.size) args s 0 0 A) 0 0 (w_X9_left o cB cI cJ cZ s_o) [(0, .ref (o 0)), (1, .int x1), (2, .int v2), (3, .int v3), (4, .int v4)] 59 [] := by
    intro K7 kh7 v2 v3 v4 hf
    rw [F_X9_left_b59] at hf
    refine g_iln cx 2 dX9_left_59 rfl ?_
    refine g_ic cx dX9_left_60 k_ic1 ?_
    refine g_il cx 4 dX9_left_61 rfl ?_
    refine g_ishl cx dX9_left_63 ?_
    refine g_ior cx dX9_left_64 ?_
    refine g_isn cx (L2 := fun v2_2 => [(2, .int v2_2), (0, .ref (o 0)), (1, .int x1), (3, .int v3), (4, .int v4)]) hf dX9_left_65 (Nat.le_of_ble_eq_true rfl) (fun _ => rfl) (fun v2_2 hf => ?_)
    refine g_goto (tgt := 94) cx dX9_left_66 rfl ?_
    refine g_sub [1, 2, 0, 3, 4] rfl ?_
    exact h94 _ kh7 _ _ _ hf
  have h43 : ∀ (K7 : Int32 → Int32 → Int32 → Option (Int32)), (∀ (v2 : Int32) (v3 : Int32) (v4 : Int32), K7 v2 v3 v4 = some r → gW p l e rm_X9_left s m args below meth c D A 6 (MQ below (QM D (tyL cB cI cJ cZ) (some (.int r)) (w_X9_left o cB cI cJ cZ s_o) (w_X9_left o cB cI cJ cZ s_o) s.heap.size) args s 0 0 A) 0 0 (w_X9_left o cB cI cJ cZ s_o) [(0, .ref (o 0)), (1, .int x1), (2, .int v2), (3, .int v3), (4, .int v4)] 7 []) → ∀ (v2 : Int32) (v3 : Int32) (v4 : Int32) (k0 : Int32), F_X9_left_b43 s_o x1 K7 v2 v3 v4 k0 = some r → gW p l e rm_X9_left s m args below meth c D A 6 (MQ below (QM D (tyL cB cI cJ cZ) (some (.int r)) (w_X9_left o cB cI cJ cZ s_o) (w_X9_left o cB cI cJ cZ s_o) s.heap.size) args s 0 0 A) 0 0 (w_X9_left o cB cI cJ cZ s_o) [(0, .ref (o 0)), (1, .int x1), (2, .int v2), (3, .int v3), (4, .int v4)] 43 [.int k0] := by
    intro K7 kh7 v2 v3 v4 k0 hf
    rw [F_X9_left_b43] at hf
    refine g_is cx (L2 := fun v5_3 => [(5, .int v5_3), (0, .ref (o 0)), (1, .int x1), (2, .int v2), (3, .int v3), (4, .int v4)]) hf dX9_left_43 (Nat.le_of_ble_eq_true rfl) (fun _ => rfl) (fun v5_3 hf => ?_)
    refine g_iln cx 2 dX9_left_45 rfl ?_
    refine g_il cx 5 dX9_left_46 rfl ?_
    refine g_ishr cx dX9_left_48 ?_
    refine g_ic cx dX9_left_49 k_ic1 ?_
    refine g_iand cx dX9_left_50 ?_
    refine g_if_ne (tgt := 59) cx hf dX9_left_51 rfl (fun hf => ?_) (fun hf => ?_)
    · refine g_sub [1, 2, 3, 4, 5] rfl ?_
      exact h59 _ kh7 _ _ _ hf
    · refine g_il cx 0 dX9_left_54 rfl ?_
      refine g_if_eq (tgt := 69) cx hf dX9_left_56 rfl (fun hf => ?_) (fun hf => ?_)
      · refine g_aln cx 1 dX9_left_69 rfl ?_
        refine g_il cx 5 dX9_left_70 rfl ?_
        refine ob hf (fun q_4 hq_4 hf => ?_)
        refine g_callVGiR cx lk_RX9_92 (c_X9_rhymed l D cB cI cJ cZ o s_o v4 q_4 hq_4) rfl [0] rfl rfl (ci := 7) (q1 := 0) rfl rfl rfl (Nat.le_of_ble_eq_true rfl) ⟨rfl, rfl, Nat.le_of_ble_eq_true rfl, Nat.le_of_ble_eq_true rfl⟩ dX9_left_72 ?_
        refine g_if_eq (tgt := 94) cx hf dX9_left_75 rfl (fun hf => ?_) (fun hf => ?_)
        · refine g_sub [1, 2, 3, 4, 5] rfl ?_
          exact h94 _ kh7 _ _ _ hf
        · refine g_iln cx 4 dX9_left_78 rfl ?_
          refine g_ic cx dX9_left_79 k_ic1 ?_
          refine g_il cx 5 dX9_left_80 rfl ?_
          refine g_ishl cx dX9_left_82 ?_
          refine g_ic cx dX9_left_83 k_ic1 ?_
          refine g_aln cx 1 dX9_left_84 rfl ?_
          refine g_il cx 5 dX9_left_85 rfl ?_
          refine ob hf (fun q_5 hq_5 hf => ?_)
          refine g_callVGiR cx lk_RX9_95 (c_X9_anchor l D cB cI cJ cZ o s_o v4 q_5 hq_5) rfl [0] rfl rfl (ci := 7) (q1 := 0) rfl rfl rfl (Nat.le_of_ble_eq_true rfl) ⟨rfl, rfl, Nat.le_of_ble_eq_true rfl, Nat.le_of_ble_eq_true rfl⟩ dX9_left_87 ?_
          refine g_ishl cx dX9_left_90 ?_
          refine g_ior cx dX9_left_91 ?_
          refine g_ior cx dX9_left_92 ?_
          refine g_isn cx (L2 := fun v3_6 => [(3, .int v3_6), (5, .int v5_3), (0, .ref (o 0)), (1, .int x1), (2, .int v2), (4, .int v4)]) hf dX9_left_93 (Nat.le_of_ble_eq_true rfl) (fun _ => rfl) (fun v3_6 hf => ?_)
          refine g_sub [2, 3, 4, 0, 5] rfl ?_
          exact h94 _ kh7 _ _ _ hf
      · refine g_sub [1, 2, 3, 4, 5] rfl ?_
        exact h59 _ kh7 _ _ _ hf
  have h42 : ∀ (K7 : Int32 → Int32 → Int32 → Option (Int32)), (∀ (v2 : Int32) (v3 : Int32) (v4 : Int32), K7 v2 v3 v4 = some r → gW p l e rm_X9_left s m args below meth c D A 6 (MQ below (QM D (tyL cB cI cJ cZ) (some (.int r)) (w_X9_left o cB cI cJ cZ s_o) (w_X9_left o cB cI cJ cZ s_o) s.heap.size) args s 0 0 A) 0 0 (w_X9_left o cB cI cJ cZ s_o) [(0, .ref (o 0)), (1, .int x1), (2, .int v2), (3, .int v3), (4, .int v4)] 7 []) → ∀ (v2 : Int32) (v3 : Int32) (v4 : Int32), F_X9_left_b42 s_o x1 K7 v2 v3 v4 = some r → gW p l e rm_X9_left s m args below meth c D A 6 (MQ below (QM D (tyL cB cI cJ cZ) (some (.int r)) (w_X9_left o cB cI cJ cZ s_o) (w_X9_left o cB cI cJ cZ s_o) s.heap.size) args s 0 0 A) 0 0 (w_X9_left o cB cI cJ cZ s_o) [(0, .ref (o 0)), (1, .int x1), (2, .int v2), (3, .int v3), (4, .int v4)] 42 [] := by
    intro K7 kh7 v2 v3 v4 hf
    rw [F_X9_left_b42] at hf
    refine g_ic cx dX9_left_42 k_ic0 ?_
    exact h43 _ kh7 _ _ _ _ hf
  have h7 : ∀ (n : Nat) (v2 : Int32) (v3 : Int32) (v4 : Int32), F_X9_left_b7 s_o x1 n v2 v3 v4 = some r → gW p l e rm_X9_left s m args below meth c D A 6 (MQ below (QM D (tyL cB cI cJ cZ) (some (.int r)) (w_X9_left o cB cI cJ cZ s_o) (w_X9_left o cB cI cJ cZ s_o) s.heap.size) args s 0 0 A) 0 0 (w_X9_left o cB cI cJ cZ s_o) [(0, .ref (o 0)), (1, .int x1), (2, .int v2), (3, .int v3), (4, .int v4)] 7 [] := by
    intro n
    induction n with
    | zero => intro v2 v3 v4 hf; rw [F_X9_left_b7] at hf; cases hf
    | succ n ih =>
      intro v2 v3 v4 hf
      rw [F_X9_left_b7] at hf
      refine g_il cx 4 dX9_left_7 rfl ?_
      refine g_aln cx 0 dX9_left_9 rfl ?_
      refine fg_RX9_27 cx 0 rfl rfl dX9_left_10 ?_
      refine g_ic_ge (tgt := 100) cx hf dX9_left_13 rfl (fun hf => ?_) (fun hf => ?_)
      · refine g_iln cx 3 dX9_left_100 rfl ?_
        exact g_iret (ovf := fun (r : Int32) => (some (.int r))) (wf := fun (r : Int32) => (w_X9_left o cB cI cJ cZ s_o)) cx hA hr hf rfl rfl dX9_left_101
      · refine g_aln cx 0 dX9_left_16 rfl ?_
        refine g_il cx 4 dX9_left_17 rfl ?_
        refine ob hf (fun q_7 hq_7 hf => ?_)
        refine g_callVGiR cx lk_RX9_92 (c_X9_rhymed l D cB cI cJ cZ o s_o v4 q_7 hq_7) rfl [0] rfl rfl (ci := 7) (q1 := 0) rfl rfl rfl (Nat.le_of_ble_eq_true rfl) ⟨rfl, rfl, Nat.le_of_ble_eq_true rfl, Nat.le_of_ble_eq_true rfl⟩ dX9_left_19 ?_
        refine g_if_eq (tgt := 42) cx hf dX9_left_22 rfl (fun hf => ?_) (fun hf => ?_)
        · exact h42 _ ih _ _ _ hf
        · refine g_iln cx 2 dX9_left_25 rfl ?_
          refine g_aln cx 0 dX9_left_26 rfl ?_
          refine g_il cx 4 dX9_left_27 rfl ?_
          refine ob hf (fun q_8 hq_8 hf => ?_)
          refine g_callVGiR cx lk_RX9_95 (c_X9_anchor l D cB cI cJ cZ o s_o v4 q_8 hq_8) rfl [0] rfl rfl (ci := 7) (q1 := 0) rfl rfl rfl (Nat.le_of_ble_eq_true rfl) ⟨rfl, rfl, Nat.le_of_ble_eq_true rfl, Nat.le_of_ble_eq_true rfl⟩ dX9_left_29 ?_
          refine g_ishr cx dX9_left_32 ?_
          refine g_ic cx dX9_left_33 k_ic1 ?_
          refine g_iand cx dX9_left_34 ?_
          refine g_if_eq (tgt := 42) cx hf dX9_left_35 rfl (fun hf => ?_) (fun hf => ?_)
          · exact h42 _ ih _ _ _ hf
          · refine g_ic cx dX9_left_38 k_ic1 ?_
            refine g_goto (tgt := 43) cx dX9_left_39 rfl ?_
            exact h43 _ ih _ _ _ _ hf
  rw [F_X9_left] at hf
  refine g_ic cx dX9_left_0 k_ic0 ?_
  refine g_isn cx (L2 := fun v2_9 => [(2, .int v2_9), (0, .ref (o 0)), (1, .int x1)]) hf dX9_left_1 (Nat.le_of_ble_eq_true rfl) (fun _ => rfl) (fun v2_9 hf => ?_)
  refine g_ic cx dX9_left_2 k_ic0 ?_
  refine g_isn cx (L2 := fun v3_10 => [(3, .int v3_10), (2, .int v2_9), (0, .ref (o 0)), (1, .int x1)]) hf dX9_left_3 (Nat.le_of_ble_eq_true rfl) (fun _ => rfl) (fun v3_10 hf => ?_)
  refine g_ic cx dX9_left_4 k_ic0 ?_
  refine g_is cx (L2 := fun v4_11 => [(4, .int v4_11), (3, .int v3_10), (2, .int v2_9), (0, .ref (o 0)), (1, .int x1)]) hf dX9_left_5 (Nat.le_of_ble_eq_true rfl) (fun _ => rfl) (fun v4_11 hf => ?_)
  refine g_sub [3, 4, 2, 1, 0] rfl ?_
  exact h7 fu _ _ _ hf
theorem dX9_keyLine_0 : decode cX9_keyLine 0 = .ok (.bipush (-9), 2) := by decide +kernel
theorem dX9_keyLine_2 : decode cX9_keyLine 2 = .ok (.istore_n 1, 1) := by decide +kernel
theorem dX9_keyLine_3 : decode cX9_keyLine 3 = .ok (.bipush 9, 2) := by decide +kernel
theorem dX9_keyLine_5 : decode cX9_keyLine 5 = .ok (.istore_n 2, 1) := by decide +kernel
theorem dX9_keyLine_6 : decode cX9_keyLine 6 = .ok (.iconst 0, 1) := by decide +kernel
theorem dX9_keyLine_7 : decode cX9_keyLine 7 = .ok (.istore_n 3, 1) := by decide +kernel
theorem dX9_keyLine_8 : decode cX9_keyLine 8 = .ok (.iload_n 3, 1) := by decide +kernel
theorem dX9_keyLine_9 : decode cX9_keyLine 9 = .ok (.aload_n 0, 1) := by decide +kernel
theorem dX9_keyLine_10 : decode cX9_keyLine 10 = .ok (.getfield 27, 3) := by decide +kernel
theorem dX9_keyLine_13 : decode cX9_keyLine 13 = .ok (.if_icmp .ge 32, 3) := by decide +kernel
theorem dX9_keyLine_16 : decode cX9_keyLine 16 = .ok (.aload_n 0, 1) := by decide +kernel
theorem dX9_keyLine_17 : decode cX9_keyLine 17 = .ok (.iconst 1, 1) := by decide +kernel
theorem dX9_keyLine_18 : decode cX9_keyLine 18 = .ok (.iload_n 3, 1) := by decide +kernel
theorem dX9_keyLine_19 : decode cX9_keyLine 19 = .ok (.ishl, 1) := by decide +kernel
theorem dX9_keyLine_20 : decode cX9_keyLine 20 = .ok (.invokevirtual 98, 3) := by decide +kernel
theorem dX9_keyLine_23 : decode cX9_keyLine 23 = .ok (.invokestatic 101, 3) := by decide +kernel
theorem dX9_keyLine_26 : decode cX9_keyLine 26 = .ok (.istore 4, 2) := by decide +kernel
theorem dX9_keyLine_28 : decode cX9_keyLine 28 = .ok (.iload 4, 2) := by decide +kernel
theorem dX9_keyLine_30 : decode cX9_keyLine 30 = .ok (.iload_n 2, 1) := by decide +kernel
theorem dX9_keyLine_31 : decode cX9_keyLine 31 = .ok (.if_icmp .ge 8, 3) := by decide +kernel
theorem dX9_keyLine_34 : decode cX9_keyLine 34 = .ok (.iload 4, 2) := by decide +kernel
theorem dX9_keyLine_36 : decode cX9_keyLine 36 = .ok (.istore_n 2, 1) := by decide +kernel
theorem dX9_keyLine_37 : decode cX9_keyLine 37 = .ok (.iload_n 3, 1) := by decide +kernel
theorem dX9_keyLine_38 : decode cX9_keyLine 38 = .ok (.istore_n 1, 1) := by decide +kernel
theorem dX9_keyLine_39 : decode cX9_keyLine 39 = .ok (.iinc 3 1, 3) := by decide +kernel
theorem dX9_keyLine_42 : decode cX9_keyLine 42 = .ok (.goto (-34), 3) := by decide +kernel
theorem dX9_keyLine_45 : decode cX9_keyLine 45 = .ok (.iload_n 1, 1) := by decide +kernel
theorem dX9_keyLine_46 : decode cX9_keyLine 46 = .ok (.ireturn, 1) := by decide +kernel
theorem k_bp9 : (Int8.ofInt (9)).toInt32 = 9 := by decide
theorem q1_20 : Cond.initialized RJ6 ∈ TT := tq1 20 rfl rfl
theorem q3_196 : Cond.instanceMethod yX9_left ∈ TT := tq3 196 rfl rfl
theorem q3_197 : Cond.selects RX9 yX9_left yX9_left ∈ TT := tq3 197 rfl rfl
theorem q3_198 : Cond.code yX9_left cX9_left 6 (some .int) ∈ TT := tq3 198 rfl rfl
theorem q3_209 : Cond.methodLink RX9 98 yX9_left ∈ TT := tq3 209 rfl rfl
theorem q3_210 : Cond.methodLink RX9 101 yJ6_bitCount_0f7a4 ∈ TT := tq3 210 rfl rfl
theorem q3_211 : Cond.static yJ6_bitCount_0f7a4 ∈ TT := tq3 211 rfl rfl
theorem q3_212 : Cond.code yJ6_bitCount_0f7a4 cJ6_bitCount_0f7a4 1 (some .int) ∈ TT := tq3 212 rfl rfl
theorem lk_RX9_98 : vlk RX9 98 yX9_left cX9_left 6 (some .int) 1 := ⟨List.forall_mem_cons.mpr ⟨q3_209, List.forall_mem_cons.mpr ⟨q3_196, List.forall_mem_cons.mpr ⟨q3_197, List.forall_mem_cons.mpr ⟨q1_3, fun _ h => absurd h List.not_mem_nil⟩⟩⟩⟩, q3_198, by decide, by decide, by decide +kernel⟩
theorem lk_RX9_101 : slk RX9 101 yJ6_bitCount_0f7a4 cJ6_bitCount_0f7a4 1 (some .int) 1 := ⟨List.forall_mem_cons.mpr ⟨q3_210, List.forall_mem_cons.mpr ⟨q3_211, List.forall_mem_cons.mpr ⟨q1_20, fun _ h => absurd h List.not_mem_nil⟩⟩⟩, q3_212, by decide, by decide, by decide +kernel⟩
def F_X9_keyLine_b39 (s_o : S9) (K8 : Int32 → Int32 → Int32 → Option (Int32)) (v1 : Int32) (v2 : Int32) (v3 : Int32) : Option (Int32) := nm (v3 + 1) fun v3_1 => K8 v1 v2 v3_1
def F_X9_keyLine_b8 (s_o : S9) : Nat → Int32 → Int32 → Int32 → Option (Int32)
  | 0, _, _, _ => none
  | n + 1, v1, v2, v3 => (if (s9_size s_o) ≤ v3 then some (v1) else (F_X9_left s_o (1 <<< (v3 &&& 31))).bind fun q_2 => (F_J6_bitCount_0f7a4 q_2).bind fun q_3 => nm q_3 fun v4_4 => (if v2 ≤ v4_4 then F_X9_keyLine_b39 s_o (F_X9_keyLine_b8 s_o n) v1 v2 v3 else nm v4_4 fun v2_5 => nm v3 fun v1_6 => F_X9_keyLine_b39 s_o (F_X9_keyLine_b8 s_o n) v1_6 v2_5 v3))
def F_X9_keyLine (s_o : S9) : Option (Int32) := nm (-9) fun v1_7 => nm 9 fun v2_8 => nm 0 fun v3_9 => F_X9_keyLine_b8 s_o fu v1_7 v2_8 v3_9
def w_X9_keyLine (o : Nat → Nat) (cB cI cJ cZ : ClassId) (s_o : S9) : va_W := List.flatten [(gX9 o cB cI cJ cZ s_o)]
abbrev rm_X9_keyLine : Room := { frames := 3, cells := 0, slots := 0, locals := 67 }
set_option maxHeartbeats 4000000 in
set_option maxRecDepth 100000 in
theorem c_X9_keyLine (l : Launch) (D : gG) (cB cI cJ cZ : ClassId) (o : Nat → Nat) (s_o : S9) (r : Int32) (hf : F_X9_keyLine s_o = some r) : gM l D (tyL cB cI cJ cZ) yX9_keyLine cX9_keyLine 5 (some .int) rm_X9_keyLine [.ref (o 0)] (w_X9_keyLine o cB cI cJ cZ s_o) (some (.int r)) (w_X9_keyLine o cB cI cJ cZ s_o) := by
  refine met_of (by decide) (Nat.le_of_ble_eq_true rfl) ?_
  intro p e s m args below meth c A cx hr hA
  show gW p l e rm_X9_keyLine s m args below meth c D A 5 _ 0 0 _ [(0, .ref (o 0))] 0 []
  have h39 : ∀ (K8 : Int32 → Int32 → Int32 → Option (Int32)), (∀ (v1 : Int32) (v2 : Int32) (v3 : Int32), K8 v1 v2 v3 = some r → gW p l e rm_X9_keyLine s m args below meth c D A 5 (MQ below (QM D (tyL cB cI cJ cZ) (some (.int r)) (w_X9_keyLine o cB cI cJ cZ s_o) (w_X9_keyLine o cB cI cJ cZ s_o) s.heap.size) args s 0 0 A) 0 0 (w_X9_keyLine o cB cI cJ cZ s_o) [(0, .ref (o 0)), (1, .int v1), (2, .int v2), (3, .int v3)] 8 []) → ∀ (v1 : Int32) (v2 : Int32) (v3 : Int32), F_X9_keyLine_b39 s_o K8 v1 v2 v3 = some r → gW p l e rm_X9_keyLine s m args below meth c D A 5 (MQ below (QM D (tyL cB cI cJ cZ) (some (.int r)) (w_X9_keyLine o cB cI cJ cZ s_o) (w_X9_keyLine o cB cI cJ cZ s_o) s.heap.size) args s 0 0 A) 0 0 (w_X9_keyLine o cB cI cJ cZ s_o) [(0, .ref (o 0)), (1, .int v1), (2, .int v2), (3, .int v3)] 39 [] := by
    intro K8 kh8 v1 v2 v3 hf
    rw [F_X9_keyLine_b39] at hf
    refine g_inc cx (L2 := fun v3_1 => [(3, .int v3_1), (0, .ref (o 0)), (1, .int v1), (2, .int v2)]) 3 hf dX9_keyLine_39 rfl (k_inc1 _) (Nat.le_of_ble_eq_true rfl) (fun _ => rfl) (fun v3_1 hf => ?_)
    refine g_goto (tgt := 8) cx dX9_keyLine_42 rfl ?_
    refine g_sub [1, 2, 3, 0] rfl ?_
    exact kh8 _ _ _ hf
  have h8 : ∀ (n : Nat) (v1 : Int32) (v2 : Int32) (v3 : Int32), F_X9_keyLine_b8 s_o n v1 v2 v3 = some r → gW p l e rm_X9_keyLine s m args below meth c D A 5 (MQ below (QM D (tyL cB cI cJ cZ) (some (.int r)) (w_X9_keyLine o cB cI cJ cZ s_o) (w_X9_keyLine o cB cI cJ cZ s_o) s.heap.size) args s 0 0 A) 0 0 (w_X9_keyLine o cB cI cJ cZ s_o) [(0, .ref (o 0)), (1, .int v1), (2, .int v2), (3, .int v3)] 8 [] := by
    intro n
    induction n with
    | zero => intro v1 v2 v3 hf; rw [F_X9_keyLine_b8] at hf; cases hf
    | succ n ih =>
      intro v1 v2 v3 hf
      rw [F_X9_keyLine_b8] at hf
      refine g_iln cx 3 dX9_keyLine_8 rfl ?_
      refine g_aln cx 0 dX9_keyLine_9 rfl ?_
      refine fg_RX9_27 cx 0 rfl rfl dX9_keyLine_10 ?_
      refine g_ic_ge (tgt := 45) cx hf dX9_keyLine_13 rfl (fun hf => ?_) (fun hf => ?_)
      · refine g_iln cx 1 dX9_keyLine_45 rfl ?_
        exact g_iret (ovf := fun (r : Int32) => (some (.int r))) (wf := fun (r : Int32) => (w_X9_keyLine o cB cI cJ cZ s_o)) cx hA hr hf rfl rfl dX9_keyLine_46
      · refine g_aln cx 0 dX9_keyLine_16 rfl ?_
        refine g_ic cx dX9_keyLine_17 k_ic1 ?_
        refine g_iln cx 3 dX9_keyLine_18 rfl ?_
        refine g_ishl cx dX9_keyLine_19 ?_
        refine ob hf (fun q_2 hq_2 hf => ?_)
        refine g_callVGiR cx lk_RX9_98 (c_X9_left l D cB cI cJ cZ o s_o (1 <<< (v3 &&& 31)) q_2 hq_2) rfl [0] rfl rfl (ci := 7) (q1 := 0) rfl rfl rfl (Nat.le_of_ble_eq_true rfl) ⟨rfl, rfl, Nat.le_of_ble_eq_true rfl, Nat.le_of_ble_eq_true rfl⟩ dX9_keyLine_20 ?_
        refine ob hf (fun q_3 hq_3 hf => ?_)
        refine g_callSiR cx lk_RX9_101 (c_J6_bitCount_0f7a4 l D cB cI cJ cZ q_2 q_3 hq_3) rfl [] rfl rfl rfl (Nat.le_of_ble_eq_true rfl) ⟨rfl, rfl, Nat.le_of_ble_eq_true rfl, Nat.le_of_ble_eq_true rfl⟩ dX9_keyLine_23 ?_
        refine g_is cx (L2 := fun v4_4 => [(4, .int v4_4), (0, .ref (o 0)), (1, .int v1), (2, .int v2), (3, .int v3)]) hf dX9_keyLine_26 (Nat.le_of_ble_eq_true rfl) (fun _ => rfl) (fun v4_4 hf => ?_)
        refine g_il cx 0 dX9_keyLine_28 rfl ?_
        refine g_iln cx 3 dX9_keyLine_30 rfl ?_
        refine g_ic_ge (tgt := 39) cx hf dX9_keyLine_31 rfl (fun hf => ?_) (fun hf => ?_)
        · refine g_sub [1, 2, 3, 4] rfl ?_
          exact h39 _ ih _ _ _ hf
        · refine g_il cx 0 dX9_keyLine_34 rfl ?_
          refine g_isn cx (L2 := fun v2_5 => [(2, .int v2_5), (4, .int v4_4), (0, .ref (o 0)), (1, .int v1), (3, .int v3)]) hf dX9_keyLine_36 (Nat.le_of_ble_eq_true rfl) (fun _ => rfl) (fun v2_5 hf => ?_)
          refine g_iln cx 4 dX9_keyLine_37 rfl ?_
          refine g_isn cx (L2 := fun v1_6 => [(1, .int v1_6), (2, .int v2_5), (4, .int v4_4), (0, .ref (o 0)), (3, .int v3)]) hf dX9_keyLine_38 (Nat.le_of_ble_eq_true rfl) (fun _ => rfl) (fun v1_6 hf => ?_)
          refine g_sub [3, 0, 1, 4] rfl ?_
          exact h39 _ ih _ _ _ hf
  rw [F_X9_keyLine] at hf
  refine g_bp cx dX9_keyLine_0 k_bpm9 ?_
  refine g_isn cx (L2 := fun v1_7 => [(1, .int v1_7), (0, .ref (o 0))]) hf dX9_keyLine_2 (Nat.le_of_ble_eq_true rfl) (fun _ => rfl) (fun v1_7 hf => ?_)
  refine g_bp cx dX9_keyLine_3 k_bp9 ?_
  refine g_isn cx (L2 := fun v2_8 => [(2, .int v2_8), (1, .int v1_7), (0, .ref (o 0))]) hf dX9_keyLine_5 (Nat.le_of_ble_eq_true rfl) (fun _ => rfl) (fun v2_8 hf => ?_)
  refine g_ic cx dX9_keyLine_6 k_ic0 ?_
  refine g_isn cx (L2 := fun v3_9 => [(3, .int v3_9), (2, .int v2_8), (1, .int v1_7), (0, .ref (o 0))]) hf dX9_keyLine_7 (Nat.le_of_ble_eq_true rfl) (fun _ => rfl) (fun v3_9 hf => ?_)
  refine g_sub [3, 2, 1, 0] rfl ?_
  exact h8 fu _ _ _ hf
