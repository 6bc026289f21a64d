theorem dX8_length_0 : decode cX8_length 0 = .ok (.aload_n 0, 1) := by decide +kernel
theorem dX8_length_1 : decode cX8_length 1 = .ok (.getfield 15, 3) := by decide +kernel
theorem dX8_length_4 : decode cX8_length 4 = .ok (.ireturn, 1) := by decide +kernel
theorem q1_36 : Cond.fieldLink RX8 15 "RhymeLaw$Text" "length" "I" ∈ TT := tq1 36 rfl rfl
theorem fg_RX8_15 {p : Program} {l : Launch} {e : Env} {R : Room} {s : State} {m : MethodId} {args : Array Value} {below : List Frame} {meth : Method} {c : Code} {D : gG} {tys : List (ClassId × FieldType)} {A : Nat → Prop} {nL : Nat} {Q : State → Prop} {cells slots : Nat} {cc : ByteArray} {ws : va_W} {L : List (Nat × Value)} {pc : Nat} {stk : List Value} (cx : gX p s m args meth c cc nL RX8 D tys A) {a : Nat} {fs : List Value} {v : Value} (q0 : Nat) (he : ws[q0]? = some (a, .inr (6, fs))) (hv : fs[1]? = some v) (hd : decode cc pc = .ok (.getfield 15, 3)) (kk : gW p l e R s m args below meth c D A nL Q cells slots ws L (pc + 3) (v :: stk)) : gW p l e R s m args below meth c D A nL Q cells slots ws L pc (.ref a :: stk) :=
  g_get cx (C := RX8) (T := TX8) (N := 5) inT8 rfl 1 (Nat.le_of_ble_eq_true rfl) q1_36 rfl q0 he hv hd kk
def F_X8_length (s_o : S8) : Option (Int32) := some ((s8_length s_o))
def w_X8_length (o : Nat → Nat) (cB cI cJ cZ : ClassId) (s_o : S8) : va_W := List.flatten [(gX8 o cB cI cJ cZ s_o)]
abbrev rm_X8_length : Room := { frames := 0, cells := 0, slots := 0, locals := 0 }
set_option maxHeartbeats 4000000 in
set_option maxRecDepth 100000 in
theorem c_X8_length (l : Launch) (D : gG) (cB cI cJ cZ : ClassId) (o : Nat → Nat) (s_o : S8) (r : Int32) (hf : F_X8_length s_o = some r) : gM l D (tyL cB cI cJ cZ) yX8_length cX8_length 1 (some .int) rm_X8_length [.ref (o 0)] (w_X8_length o cB cI cJ cZ s_o) (some (.int r)) (w_X8_length o cB cI cJ cZ s_o) := by
  refine met_of (by decide) (Nat.le_of_ble_eq_true rfl) ?_
  intro p e s m args below meth c A cx hr hA
  show gW p l e rm_X8_length s m args below meth c D A 1 _ 0 0 _ [(0, .ref (o 0))] 0 []
  rw [F_X8_length] at hf
  refine g_aln cx 0 dX8_length_0 rfl ?_
  refine fg_RX8_15 cx 0 rfl rfl dX8_length_1 ?_
  exact g_iret (ovf := fun (r : Int32) => (some (.int r))) (wf := fun (r : Int32) => (w_X8_length o cB cI cJ cZ s_o)) cx hA hr hf rfl rfl dX8_length_4
theorem dX8_wipe_0 : decode cX8_wipe 0 = .ok (.aload_n 0, 1) := by decide +kernel
theorem dX8_wipe_1 : decode cX8_wipe 1 = .ok (.iconst 0, 1) := by decide +kernel
theorem dX8_wipe_2 : decode cX8_wipe 2 = .ok (.putfield 15, 3) := by decide +kernel
theorem dX8_wipe_5 : decode cX8_wipe 5 = .ok (.return_, 1) := by decide +kernel

theorem fp_RX8_15 {p : Program} {l : Launch} {e : Env} {R : Room} {s : State} {m : MethodId} {args : Array Value} {below : List Frame} {meth : Method} {c : Code} {D : gG} {tys : List (ClassId × FieldType)} {A : Nat → Prop} {nL : Nat} {Q : State → Prop} {cells slots : Nat} {cc : ByteArray} {ws : va_W} {L : List (Nat × Value)} {pc : Nat} {stk : List Value} (cx : gX p s m args meth c cc nL RX8 D tys A) {a : Nat} {fs : List Value} {x : Int32} (q0 : Nat) (he : ws[q0]? = some (a, .inr (6, fs))) (hl : 1 < fs.length) {ws' : va_W} (hw : ws.set q0 (a, .inr (6, fs.set 1 (.int x))) = ws') (hd : decode cc pc = .ok (.putfield 15, 3)) (kk : gW p l e R s m args below meth c D A nL Q cells slots ws' L (pc + 3) stk) : gW p l e R s m args below meth c D A nL Q cells slots ws L pc (.int x :: .ref a :: stk) :=
  g_put cx (C := RX8) (T := TX8) (N := 5) (ty0 := tyX8) (ty := .int) inT8 tyX8_ok nmX8 rfl 1 (Nat.le_of_ble_eq_true rfl) q1_36 rfl rfl rfl rfl rfl q0 he hl hw hd kk
def F_X8_wipe (s_o : S8) : Option (S8) := nm (u8_length s_o 0) fun s_o_1 => some (s_o_1)
def w_X8_wipe (o : Nat → Nat) (cB cI cJ cZ : ClassId) (s_o : S8) : va_W := List.flatten [(gX8 o cB cI cJ cZ s_o)]
abbrev rm_X8_wipe : Room := { frames := 0, cells := 0, slots := 0, locals := 0 }
set_option maxHeartbeats 4000000 in
set_option maxRecDepth 100000 in
theorem c_X8_wipe (l : Launch) (D : gG) (cB cI cJ cZ : ClassId) (o : Nat → Nat) (s_o : S8) (r : S8) (hf : F_X8_wipe s_o = some r) : gM l D (tyL cB cI cJ cZ) yX8_wipe cX8_wipe 1 none rm_X8_wipe [.ref (o 0)] (w_X8_wipe o cB cI cJ cZ s_o) none (w_X8_wipe o cB cI cJ cZ r) := by
  refine met_of (by decide) (Nat.le_of_ble_eq_true rfl) ?_
  intro p e s m args below meth c A cx hr hA
  show gW p l e rm_X8_wipe s m args below meth c D A 1 _ 0 0 _ [(0, .ref (o 0))] 0 []
  rw [F_X8_wipe] at hf
  refine g_aln cx 0 dX8_wipe_0 rfl ?_
  refine g_ic cx dX8_wipe_1 k_ic0 ?_
  refine fp_RX8_15 cx 0 rfl (Nat.le_of_ble_eq_true rfl) (ws' := (w_X8_wipe o cB cI cJ cZ (u8_length s_o 0))) rfl dX8_wipe_2 ?_
  refine g_nm (w := fun s_o_1 => (w_X8_wipe o cB cI cJ cZ s_o_1)) hf (fun s_o_1 hf => ?_)
  exact g_vret (ovf := fun (r : S8) => none) (wf := fun (r : S8) => (w_X8_wipe o cB cI cJ cZ r)) cx hA hr hf rfl rfl dX8_wipe_5
theorem dX8_append_0 : decode cX8_append 0 = .ok (.aload_n 0, 1) := by decide +kernel
theorem dX8_append_1 : decode cX8_append 1 = .ok (.getfield 15, 3) := by decide +kernel
theorem dX8_append_4 : decode cX8_append 4 = .ok (.ifCond .lt 36, 3) := by decide +kernel
theorem dX8_append_7 : decode cX8_append 7 = .ok (.aload_n 0, 1) := by decide +kernel
theorem dX8_append_8 : decode cX8_append 8 = .ok (.getfield 15, 3) := by decide +kernel
theorem dX8_append_11 : decode cX8_append 11 = .ok (.aload_n 0, 1) := by decide +kernel
theorem dX8_append_12 : decode cX8_append 12 = .ok (.getfield 9, 3) := by decide +kernel
theorem dX8_append_15 : decode cX8_append 15 = .ok (.arraylength, 1) := by decide +kernel
theorem dX8_append_16 : decode cX8_append 16 = .ok (.if_icmp .ge 24, 3) := by decide +kernel
theorem dX8_append_19 : decode cX8_append 19 = .ok (.aload_n 0, 1) := by decide +kernel
theorem dX8_append_20 : decode cX8_append 20 = .ok (.getfield 9, 3) := by decide +kernel
theorem dX8_append_23 : decode cX8_append 23 = .ok (.aload_n 0, 1) := by decide +kernel
theorem dX8_append_24 : decode cX8_append 24 = .ok (.getfield 15, 3) := by decide +kernel
theorem dX8_append_27 : decode cX8_append 27 = .ok (.iload_n 1, 1) := by decide +kernel
theorem dX8_append_28 : decode cX8_append 28 = .ok (.i2b, 1) := by decide +kernel
theorem dX8_append_29 : decode cX8_append 29 = .ok (.bastore, 1) := by decide +kernel
theorem dX8_append_30 : decode cX8_append 30 = .ok (.aload_n 0, 1) := by decide +kernel
theorem dX8_append_31 : decode cX8_append 31 = .ok (.dup, 1) := by decide +kernel
theorem dX8_append_32 : decode cX8_append 32 = .ok (.getfield 15, 3) := by decide +kernel
theorem dX8_append_35 : decode cX8_append 35 = .ok (.iconst 1, 1) := by decide +kernel
theorem dX8_append_36 : decode cX8_append 36 = .ok (.iadd, 1) := by decide +kernel
theorem dX8_append_37 : decode cX8_append 37 = .ok (.putfield 15, 3) := by decide +kernel
theorem dX8_append_40 : decode cX8_append 40 = .ok (.return_, 1) := by decide +kernel
theorem q1_35 : Cond.fieldLink RX8 9 "RhymeLaw$Text" "bytes" "[B" ∈ TT := tq1 35 rfl rfl
theorem fg_RX8_9 {p : Program} {l : Launch} {e : Env} {R : Room} {s : State} {m : MethodId} {args : Array Value} {below : List Frame} {meth : Method} {c : Code} {D : gG} {tys : List (ClassId × FieldType)} {A : Nat → Prop} {nL : Nat} {Q : State → Prop} {cells slots : Nat} {cc : ByteArray} {ws : va_W} {L : List (Nat × Value)} {pc : Nat} {stk : List Value} (cx : gX p s m args meth c cc nL RX8 D tys A) {a : Nat} {fs : List Value} {v : Value} (q0 : Nat) (he : ws[q0]? = some (a, .inr (6, fs))) (hv : fs[0]? = some v) (hd : decode cc pc = .ok (.getfield 9, 3)) (kk : gW p l e R s m args below meth c D A nL Q cells slots ws L (pc + 3) (v :: stk)) : gW p l e R s m args below meth c D A nL Q cells slots ws L pc (.ref a :: stk) :=
  g_get cx (C := RX8) (T := TX8) (N := 5) inT8 rfl 0 (Nat.le_of_ble_eq_true rfl) q1_35 rfl q0 he hv hd kk
def F_X8_append (s_o : S8) (x1 : Int32) : Option (S8) := (if (s8_length s_o) < 0 then some (s_o) else (if 500 ≤ (s8_length s_o) then some (s_o) else (aset 500 (s8_bytes s_o) (s8_length s_o) (vp_nar .byte (Int8.toInt32 (Int32.toInt8 x1)))).bind fun f_1 => nm (u8_bytes s_o f_1) fun s_o_2 => nm (u8_length s_o_2 ((s8_length s_o_2) + 1)) fun s_o_3 => some (s_o_3)))
def w_X8_append (o : Nat → Nat) (cB cI cJ cZ : ClassId) (s_o : S8) : va_W := List.flatten [(gX8 o cB cI cJ cZ s_o)]
abbrev rm_X8_append : Room := { frames := 0, cells := 0, slots := 0, locals := 0 }
set_option maxHeartbeats 4000000 in
set_option maxRecDepth 100000 in
theorem c_X8_append (l : Launch) (D : gG) (cB cI cJ cZ : ClassId) (o : Nat → Nat) (s_o : S8) (x1 : Int32) (r : S8) (hf : F_X8_append s_o x1 = some r) : gM l D (tyL cB cI cJ cZ) yX8_append cX8_append 2 none rm_X8_append [.ref (o 0), .int x1] (w_X8_append o cB cI cJ cZ s_o) none (w_X8_append o cB cI cJ cZ r) := by
  refine met_of (by decide) (Nat.le_of_ble_eq_true rfl) ?_
  intro p e s m args below meth c A cx hr hA
  show gW p l e rm_X8_append s m args below meth c D A 2 _ 0 0 _ [(0, .ref (o 0)), (1, .int x1)] 0 []
  rw [F_X8_append] at hf
  refine g_aln cx 0 dX8_append_0 rfl ?_
  refine fg_RX8_15 cx 0 rfl rfl dX8_append_1 ?_
  refine g_if_lt (tgt := 40) cx hf dX8_append_4 rfl (fun hf => ?_) (fun hf => ?_)
  · exact g_vret (ovf := fun (r : S8) => none) (wf := fun (r : S8) => (w_X8_append o cB cI cJ cZ r)) cx hA hr hf rfl rfl dX8_append_40
  · refine g_aln cx 0 dX8_append_7 rfl ?_
    refine fg_RX8_15 cx 0 rfl rfl dX8_append_8 ?_
    refine g_aln cx 0 dX8_append_11 rfl ?_
    refine fg_RX8_9 cx 0 rfl rfl dX8_append_12 ?_
    refine g_alen cx 1 0 rfl rfl rfl dX8_append_15 ?_
    refine g_ic_ge (tgt := 40) cx hf dX8_append_16 rfl (fun hf => ?_) (fun hf => ?_)
    · exact g_vret (ovf := fun (r : S8) => none) (wf := fun (r : S8) => (w_X8_append o cB cI cJ cZ r)) cx hA hr hf rfl rfl dX8_append_40
    · refine g_aln cx 0 dX8_append_19 rfl ?_
      refine fg_RX8_9 cx 0 rfl rfl dX8_append_20 ?_
      refine g_aln cx 0 dX8_append_23 rfl ?_
      refine fg_RX8_15 cx 0 rfl rfl dX8_append_24 ?_
      refine g_iln cx 1 dX8_append_27 rfl ?_
      refine g_i2b cx dX8_append_28 ?_
      refine g_bast cx 1 0 (ws' := fun f_1 => (w_X8_append o cB cI cJ cZ (u8_bytes s_o f_1))) hf rfl rfl (fun _ => rfl) dX8_append_29 (fun f_1 hf => ?_)
      refine g_nm (w := fun s_o_2 => (w_X8_append o cB cI cJ cZ s_o_2)) hf (fun s_o_2 hf => ?_)
      refine g_aln cx 0 dX8_append_30 rfl ?_
      refine g_dup cx dX8_append_31 rfl ?_
      refine fg_RX8_15 cx 0 rfl rfl dX8_append_32 ?_
      refine g_ic cx dX8_append_35 k_ic1 ?_
      refine g_iadd cx dX8_append_36 ?_
      refine fp_RX8_15 cx 0 rfl (Nat.le_of_ble_eq_true rfl) (ws' := (w_X8_append o cB cI cJ cZ (u8_length s_o_2 ((s8_length s_o_2) + 1)))) rfl dX8_append_37 ?_
      refine g_nm (w := fun s_o_3 => (w_X8_append o cB cI cJ cZ s_o_3)) hf (fun s_o_3 hf => ?_)
      exact g_vret (ovf := fun (r : S8) => none) (wf := fun (r : S8) => (w_X8_append o cB cI cJ cZ r)) cx hA hr hf rfl rfl dX8_append_40
theorem dX8_rewind_0 : decode cX8_rewind 0 = .ok (.aload_n 0, 1) := by decide +kernel
theorem dX8_rewind_1 : decode cX8_rewind 1 = .ok (.iconst 0, 1) := by decide +kernel
theorem dX8_rewind_2 : decode cX8_rewind 2 = .ok (.putfield 19, 3) := by decide +kernel
theorem dX8_rewind_5 : decode cX8_rewind 5 = .ok (.aload_n 0, 1) := by decide +kernel
theorem dX8_rewind_6 : decode cX8_rewind 6 = .ok (.iconst 0, 1) := by decide +kernel
theorem dX8_rewind_7 : decode cX8_rewind 7 = .ok (.putfield 22, 3) := by decide +kernel
theorem dX8_rewind_10 : decode cX8_rewind 10 = .ok (.aload_n 0, 1) := by decide +kernel
theorem dX8_rewind_11 : decode cX8_rewind 11 = .ok (.iconst 0, 1) := by decide +kernel
theorem dX8_rewind_12 : decode cX8_rewind 12 = .ok (.putfield 25, 3) := by decide +kernel
theorem dX8_rewind_15 : decode cX8_rewind 15 = .ok (.return_, 1) := by decide +kernel
theorem q1_37 : Cond.fieldLink RX8 19 "RhymeLaw$Text" "start" "I" ∈ TT := tq1 37 rfl rfl
theorem q1_38 : Cond.fieldLink RX8 22 "RhymeLaw$Text" "end" "I" ∈ TT := tq1 38 rfl rfl
theorem q1_39 : Cond.fieldLink RX8 25 "RhymeLaw$Text" "sort" "I" ∈ TT := tq1 39 rfl rfl
theorem fp_RX8_19 {p : Program} {l : Launch} {e : Env} {R : Room} {s : State} {m : MethodId} {args : Array Value} {below : List Frame} {meth : Method} {c : Code} {D : gG} {tys : List (ClassId × FieldType)} {A : Nat → Prop} {nL : Nat} {Q : State → Prop} {cells slots : Nat} {cc : ByteArray} {ws : va_W} {L : List (Nat × Value)} {pc : Nat} {stk : List Value} (cx : gX p s m args meth c cc nL RX8 D tys A) {a : Nat} {fs : List Value} {x : Int32} (q0 : Nat) (he : ws[q0]? = some (a, .inr (6, fs))) (hl : 2 < fs.length) {ws' : va_W} (hw : ws.set q0 (a, .inr (6, fs.set 2 (.int x))) = ws') (hd : decode cc pc = .ok (.putfield 19, 3)) (kk : gW p l e R s m args below meth c D A nL Q cells slots ws' L (pc + 3) stk) : gW p l e R s m args below meth c D A nL Q cells slots ws L pc (.int x :: .ref a :: stk) :=
  g_put cx (C := RX8) (T := TX8) (N := 5) (ty0 := tyX8) (ty := .int) inT8 tyX8_ok nmX8 rfl 2 (Nat.le_of_ble_eq_true rfl) q1_37 rfl rfl rfl rfl rfl q0 he hl hw hd kk
theorem fp_RX8_22 {p : Program} {l : Launch} {e : Env} {R : Room} {s : State} {m : MethodId} {args : Array Value} {below : List Frame} {meth : Method} {c : Code} {D : gG} {tys : List (ClassId × FieldType)} {A : Nat → Prop} {nL : Nat} {Q : State → Prop} {cells slots : Nat} {cc : ByteArray} {ws : va_W} {L : List (Nat × Value)} {pc : Nat} {stk : List Value} (cx : gX p s m args meth c cc nL RX8 D tys A) {a : Nat} {fs : List Value} {x : Int32} (q0 : Nat) (he : ws[q0]? = some (a, .inr (6, fs))) (hl : 3 < fs.length) {ws' : va_W} (hw : ws.set q0 (a, .inr (6, fs.set 3 (.int x))) = ws') (hd : decode cc pc = .ok (.putfield 22, 3)) (kk : gW p l e R s m args below meth c D A nL Q cells slots ws' L (pc + 3) stk) : gW p l e R s m args below meth c D A nL Q cells slots ws L pc (.int x :: .ref a :: stk) :=
  g_put cx (C := RX8) (T := TX8) (N := 5) (ty0 := tyX8) (ty := .int) inT8 tyX8_ok nmX8 rfl 3 (Nat.le_of_ble_eq_true rfl) q1_38 rfl rfl rfl rfl rfl q0 he hl hw hd kk
theorem fp_RX8_25 {p : Program} {l : Launch} {e : Env} {R : Room} {s : State} {m : MethodId} {args : Array Value} {below : List Frame} {meth : Method} {c : Code} {D : gG} {tys : List (ClassId × FieldType)} {A : Nat → Prop} {nL : Nat} {Q : State → Prop} {cells slots : Nat} {cc : ByteArray} {ws : va_W} {L : List (Nat × Value)} {pc : Nat} {stk : List Value} (cx : gX p s m args meth c cc nL RX8 D tys A) {a : Nat} {fs : List Value} {x : Int32} (q0 : Nat) (he : ws[q0]? = some (a, .inr (6, fs))) (hl : 4 < fs.length) {ws' : va_W} (hw : ws.set q0 (a, .inr (6, fs.set 4 (.int x))) = ws') (hd : decode cc pc = .ok (.putfield 25, 3)) (kk : gW p l e R s m args below meth c D A nL Q cells slots ws' L (pc + 3) stk) : gW p l e R s m args below meth c D A nL Q cells slots ws L pc (.int x :: .ref a :: stk) :=
  g_put cx (C := RX8) (T := TX8) (N := 5) (ty0 := tyX8) (ty := .int) inT8 tyX8_ok nmX8 rfl 4 (Nat.le_of_ble_eq_true rfl) q1_39 rfl rfl rfl rfl rfl q0 he hl hw hd kk
def F_X8_rewind (s_o : S8) : Option (S8) := nm (u8_start s_o 0) fun s_o_1 => nm (u8_end s_o_1 0) fun s_o_2 => nm (u8_sort s_o_2 0) fun s_o_3 => some (s_o_3)
def w_X8_rewind (o : Nat → Nat) (cB cI cJ cZ : ClassId) (s_o : S8) : va_W := List.flatten [(gX8 o cB cI cJ cZ s_o)]
abbrev rm_X8_rewind : Room := { frames := 0, cells := 0, slots := 0, locals := 0 }
set_option maxHeartbeats 4000000 in
set_option maxRecDepth 100000 in
theorem c_X8_rewind (l : Launch) (D : gG) (cB cI cJ cZ : ClassId) (o : Nat → Nat) (s_o : S8) (r : S8) (hf : F_X8_rewind s_o = some r) : gM l D (tyL cB cI cJ cZ) yX8_rewind cX8_rewind 1 none rm_X8_rewind [.ref (o 0)] (w_X8_rewind o cB cI cJ cZ s_o) none (w_X8_rewind o cB cI cJ cZ r) := by
  refine met_of (by decide) (Nat.le_of_ble_eq_true rfl) ?_
  intro p e s m args below meth c A cx hr hA
  show gW p l e rm_X8_rewind s m args below meth c D A 1 _ 0 0 _ [(0, .ref (o 0))] 0 []
  rw [F_X8_rewind] at hf
  refine g_aln cx 0 dX8_rewind_0 rfl ?_
  refine g_ic cx dX8_rewind_1 k_ic0 ?_
  refine fp_RX8_19 cx 0 rfl (Nat.le_of_ble_eq_true rfl) (ws' := (w_X8_rewind o cB cI cJ cZ (u8_start s_o 0))) rfl dX8_rewind_2 ?_
  refine g_nm (w := fun s_o_1 => (w_X8_rewind o cB cI cJ cZ s_o_1)) hf (fun s_o_1 hf => ?_)
  refine g_aln cx 0 dX8_rewind_5 rfl ?_
  refine g_ic cx dX8_rewind_6 k_ic0 ?_
  refine fp_RX8_22 cx 0 rfl (Nat.le_of_ble_eq_true rfl) (ws' := (w_X8_rewind o cB cI cJ cZ (u8_end s_o_1 0))) rfl dX8_rewind_7 ?_
  refine g_nm (w := fun s_o_2 => (w_X8_rewind o cB cI cJ cZ s_o_2)) hf (fun s_o_2 hf => ?_)
  refine g_aln cx 0 dX8_rewind_10 rfl ?_
  refine g_ic cx dX8_rewind_11 k_ic0 ?_
  refine fp_RX8_25 cx 0 rfl (Nat.le_of_ble_eq_true rfl) (ws' := (w_X8_rewind o cB cI cJ cZ (u8_sort s_o_2 0))) rfl dX8_rewind_12 ?_
  refine g_nm (w := fun s_o_3 => (w_X8_rewind o cB cI cJ cZ s_o_3)) hf (fun s_o_3 hf => ?_)
  exact g_vret (ovf := fun (r : S8) => none) (wf := fun (r : S8) => (w_X8_rewind o cB cI cJ cZ r)) cx hA hr hf rfl rfl dX8_rewind_15
theorem dX8_behind_0 : decode cX8_behind 0 = .ok (.iload_n 1, 1) := by decide +kernel
theorem dX8_behind_1 : decode cX8_behind 1 = .ok (.istore 4, 2) := by decide +kernel
theorem dX8_behind_3 : decode cX8_behind 3 = .ok (.iload 4, 2) := by decide +kernel
theorem dX8_behind_5 : decode cX8_behind 5 = .ok (.aload_n 0, 1) := by decide +kernel
theorem dX8_behind_6 : decode cX8_behind 6 = .ok (.getfield 15, 3) := by decide +kernel
theorem dX8_behind_9 : decode cX8_behind 9 = .ok (.if_icmp .ge 49, 3) := by decide +kernel
theorem dX8_behind_12 : decode cX8_behind 12 = .ok (.iload 4, 2) := by decide +kernel
theorem dX8_behind_14 : decode cX8_behind 14 = .ok (.ifCond .lt 35, 3) := by decide +kernel
theorem dX8_behind_17 : decode cX8_behind 17 = .ok (.iload 4, 2) := by decide +kernel
theorem dX8_behind_19 : decode cX8_behind 19 = .ok (.aload_n 0, 1) := by decide +kernel
theorem dX8_behind_20 : decode cX8_behind 20 = .ok (.getfield 9, 3) := by decide +kernel
theorem dX8_behind_23 : decode cX8_behind 23 = .ok (.arraylength, 1) := by decide +kernel
theorem dX8_behind_24 : decode cX8_behind 24 = .ok (.if_icmp .ge 25, 3) := by decide +kernel
theorem dX8_behind_27 : decode cX8_behind 27 = .ok (.aload_n 0, 1) := by decide +kernel
theorem dX8_behind_28 : decode cX8_behind 28 = .ok (.getfield 9, 3) := by decide +kernel
theorem dX8_behind_31 : decode cX8_behind 31 = .ok (.iload 4, 2) := by decide +kernel
theorem dX8_behind_33 : decode cX8_behind 33 = .ok (.baload, 1) := by decide +kernel
theorem dX8_behind_34 : decode cX8_behind 34 = .ok (.iload_n 2, 1) := by decide +kernel
theorem dX8_behind_35 : decode cX8_behind 35 = .ok (.if_icmp .lt 14, 3) := by decide +kernel
theorem dX8_behind_38 : decode cX8_behind 38 = .ok (.aload_n 0, 1) := by decide +kernel
theorem dX8_behind_39 : decode cX8_behind 39 = .ok (.getfield 9, 3) := by decide +kernel
theorem dX8_behind_42 : decode cX8_behind 42 = .ok (.iload 4, 2) := by decide +kernel
theorem dX8_behind_44 : decode cX8_behind 44 = .ok (.baload, 1) := by decide +kernel
theorem dX8_behind_45 : decode cX8_behind 45 = .ok (.iload_n 3, 1) := by decide +kernel
theorem dX8_behind_46 : decode cX8_behind 46 = .ok (.if_icmp .le 6, 3) := by decide +kernel
theorem dX8_behind_49 : decode cX8_behind 49 = .ok (.iload 4, 2) := by decide +kernel
theorem dX8_behind_51 : decode cX8_behind 51 = .ok (.ireturn, 1) := by decide +kernel
theorem dX8_behind_52 : decode cX8_behind 52 = .ok (.iinc 4 1, 3) := by decide +kernel
theorem dX8_behind_55 : decode cX8_behind 55 = .ok (.goto (-52), 3) := by decide +kernel
theorem dX8_behind_58 : decode cX8_behind 58 = .ok (.aload_n 0, 1) := by decide +kernel
theorem dX8_behind_59 : decode cX8_behind 59 = .ok (.getfield 15, 3) := by decide +kernel
theorem dX8_behind_62 : decode cX8_behind 62 = .ok (.ireturn, 1) := by decide +kernel


def F_X8_behind_b3 (s_o : S8) (x1 : Int32) (x2 : Int32) (x3 : Int32) : Nat → Int32 → Option (Int32)
  | 0, _ => none
  | n + 1, v4 => (if (s8_length s_o) ≤ v4 then some ((s8_length s_o)) else (if v4 < 0 then some (v4) else (if 500 ≤ v4 then some (v4) else (aget 500 (s8_bytes s_o) v4).bind fun e_1 => (if e_1 < x2 then some (v4) else (aget 500 (s8_bytes s_o) v4).bind fun e_2 => (if e_2 ≤ x3 then nm (v4 + 1) fun v4_3 => (F_X8_behind_b3 s_o x1 x2 x3 n) v4_3 else some (v4))))))
def F_X8_behind (s_o : S8) (x1 : Int32) (x2 : Int32) (x3 : Int32) : Option (Int32) := nm x1 fun v4_4 => F_X8_behind_b3 s_o x1 x2 x3 fu v4_4
def w_X8_behind (o : Nat → Nat) (cB cI cJ cZ : ClassId) (s_o : S8) : va_W := List.flatten [(gX8 o cB cI cJ cZ s_o)]
abbrev rm_X8_behind : Room := { frames := 0, cells := 0, slots := 0, locals := 0 }
set_option maxHeartbeats 4000000 in
set_option maxRecDepth 100000 in
theorem c_X8_behind (l : Launch) (D : gG) (cB cI cJ cZ : ClassId) (o : Nat → Nat) (s_o : S8) (x1 : Int32) (x2 : Int32) (x3 : Int32) (r : Int32) (hf : F_X8_behind s_o x1 x2 x3 = some r) : gM l D (tyL cB cI cJ cZ) yX8_behind cX8_behind 5 (some .int) rm_X8_behind [.ref (o 0), .int x1, .int x2, .int x3] (w_X8_behind o cB cI cJ cZ s_o) (some (.int r)) (w_X8_behind o cB cI cJ cZ s_o) := by
  refine met_of (by decide) (Nat.le_of_ble_eq_true rfl) ?_
  intro p e s m args below meth c A cx hr hA
  show gW p l e rm_X8_behind s m args below meth c D A 5 _ 0 0 _ [(0, .ref (o 0)), (1, .int x1), (2, .int x2), (3, .int x3)] 0 []
  have h3 : ∀ (n : Nat) (v4 : Int32), F_X8_behind_b3 s_o x1 x2 x3 n v4 = some r → gW p l e rm_X8_behind s m args below meth c D A 5 (MQ below (QM D (tyL cB cI cJ cZ) (some (.int r)) (w_X8_behind o cB cI cJ cZ s_o) (w_X8_behind o cB cI cJ cZ s_o) s.heap.size) args s 0 0 A) 0 0 (w_X8_behind o cB cI cJ cZ s_o) [(0, .ref (o 0)), (2, .int x2), (3, .int x3), (4, .int v4)] 3 [] := by
    intro n
    induction n with
    | zero => intro v4 hf; rw [F_X8_behind_b3] at hf; cases hf
    | succ n ih =>
      intro v4 hf
      rw [F_X8_behind_b3] at hf
      refine g_il cx 3 dX8_behind_3 rfl ?_
      refine g_aln cx 0 dX8_behind_5 rfl ?_
      refine fg_RX8_15 cx 0 rfl rfl dX8_behind_6 ?_
      refine g_ic_ge (tgt := 58) cx hf dX8_behind_9 rfl (fun hf => ?_) (fun hf => ?_)
      · refine g_aln cx 0 dX8_behind_58 rfl ?_
        refine fg_RX8_15 cx 0 rfl rfl dX8_behind_59 ?_
        exact g_iret (ovf := fun (r : Int32) => (some (.int r))) (wf := fun (r : Int32) => (w_X8_behind o cB cI cJ cZ s_o)) cx hA hr hf rfl rfl dX8_behind_62
      · refine g_il cx 3 dX8_behind_12 rfl ?_
        refine g_if_lt (tgt := 49) cx hf dX8_behind_14 rfl (fun hf => ?_) (fun hf => ?_)
        · refine g_il cx 3 dX8_behind_49 rfl ?_
          exact g_iret (ovf := fun (r : Int32) => (some (.int r))) (wf := fun (r : Int32) => (w_X8_behind o cB cI cJ cZ s_o)) cx hA hr hf rfl rfl dX8_behind_51
        · refine g_il cx 3 dX8_behind_17 rfl ?_
          refine g_aln cx 0 dX8_behind_19 rfl ?_
          refine fg_RX8_9 cx 0 rfl rfl dX8_behind_20 ?_
          refine g_alen cx 1 0 rfl rfl rfl dX8_behind_23 ?_
          refine g_ic_ge (tgt := 49) cx hf dX8_behind_24 rfl (fun hf => ?_) (fun hf => ?_)
          · refine g_il cx 3 dX8_behind_49 rfl ?_
            exact g_iret (ovf := fun (r : Int32) => (some (.int r))) (wf := fun (r : Int32) => (w_X8_behind o cB cI cJ cZ s_o)) cx hA hr hf rfl rfl dX8_behind_51
          · refine g_aln cx 0 dX8_behind_27 rfl ?_
            refine fg_RX8_9 cx 0 rfl rfl dX8_behind_28 ?_
            refine g_il cx 3 dX8_behind_31 rfl ?_
            refine g_bald cx 1 0 hf rfl rfl dX8_behind_33 (fun e_1 hf => ?_)
            refine g_iln cx 1 dX8_behind_34 rfl ?_
            refine g_ic_lt (tgt := 49) cx hf dX8_behind_35 rfl (fun hf => ?_) (fun hf => ?_)
            · refine g_il cx 3 dX8_behind_49 rfl ?_
              exact g_iret (ovf := fun (r : Int32) => (some (.int r))) (wf := fun (r : Int32) => (w_X8_behind o cB cI cJ cZ s_o)) cx hA hr hf rfl rfl dX8_behind_51
            · refine g_aln cx 0 dX8_behind_38 rfl ?_
              refine fg_RX8_9 cx 0 rfl rfl dX8_behind_39 ?_
              refine g_il cx 3 dX8_behind_42 rfl ?_
              refine g_bald cx 1 0 hf rfl rfl dX8_behind_44 (fun e_2 hf => ?_)
              refine g_iln cx 2 dX8_behind_45 rfl ?_
              refine g_ic_le (tgt := 52) cx hf dX8_behind_46 rfl (fun hf => ?_) (fun hf => ?_)
              · refine g_inc cx (L2 := fun v4_3 => [(4, .int v4_3), (0, .ref (o 0)), (2, .int x2), (3, .int x3)]) 3 hf dX8_behind_52 rfl (k_inc1 _) (Nat.le_of_ble_eq_true rfl) (fun _ => rfl) (fun v4_3 hf => ?_)
                refine g_goto (tgt := 3) cx dX8_behind_55 rfl ?_
                refine g_sub [1, 2, 3, 0] rfl ?_
                exact ih _ hf
              · refine g_il cx 3 dX8_behind_49 rfl ?_
                exact g_iret (ovf := fun (r : Int32) => (some (.int r))) (wf := fun (r : Int32) => (w_X8_behind o cB cI cJ cZ s_o)) cx hA hr hf rfl rfl dX8_behind_51
  rw [F_X8_behind] at hf
  refine g_iln cx 1 dX8_behind_0 rfl ?_
  refine g_is cx (L2 := fun v4_4 => [(4, .int v4_4), (0, .ref (o 0)), (1, .int x1), (2, .int x2), (3, .int x3)]) hf dX8_behind_1 (Nat.le_of_ble_eq_true rfl) (fun _ => rfl) (fun v4_4 hf => ?_)
  refine g_sub [1, 3, 4, 0] rfl ?_
  exact h3 fu _ hf
theorem dX8_byteAt_0 : decode cX8_byteAt 0 = .ok (.iload_n 1, 1) := by decide +kernel
theorem dX8_byteAt_1 : decode cX8_byteAt 1 = .ok (.ifCond .lt 29, 3) := by decide +kernel
theorem dX8_byteAt_4 : decode cX8_byteAt 4 = .ok (.iload_n 1, 1) := by decide +kernel
theorem dX8_byteAt_5 : decode cX8_byteAt 5 = .ok (.aload_n 0, 1) := by decide +kernel
theorem dX8_byteAt_6 : decode cX8_byteAt 6 = .ok (.getfield 15, 3) := by decide +kernel
theorem dX8_byteAt_9 : decode cX8_byteAt 9 = .ok (.if_icmp .ge 21, 3) := by decide +kernel
theorem dX8_byteAt_12 : decode cX8_byteAt 12 = .ok (.iload_n 1, 1) := by decide +kernel
theorem dX8_byteAt_13 : decode cX8_byteAt 13 = .ok (.aload_n 0, 1) := by decide +kernel
theorem dX8_byteAt_14 : decode cX8_byteAt 14 = .ok (.getfield 9, 3) := by decide +kernel
theorem dX8_byteAt_17 : decode cX8_byteAt 17 = .ok (.arraylength, 1) := by decide +kernel
theorem dX8_byteAt_18 : decode cX8_byteAt 18 = .ok (.if_icmp .ge 12, 3) := by decide +kernel
theorem dX8_byteAt_21 : decode cX8_byteAt 21 = .ok (.aload_n 0, 1) := by decide +kernel
theorem dX8_byteAt_22 : decode cX8_byteAt 22 = .ok (.getfield 9, 3) := by decide +kernel
theorem dX8_byteAt_25 : decode cX8_byteAt 25 = .ok (.iload_n 1, 1) := by decide +kernel
theorem dX8_byteAt_26 : decode cX8_byteAt 26 = .ok (.baload, 1) := by decide +kernel
theorem dX8_byteAt_27 : decode cX8_byteAt 27 = .ok (.goto 4, 3) := by decide +kernel
theorem dX8_byteAt_30 : decode cX8_byteAt 30 = .ok (.iconst (-1), 1) := by decide +kernel
theorem dX8_byteAt_31 : decode cX8_byteAt 31 = .ok (.ireturn, 1) := by decide +kernel


def F_X8_byteAt (s_o : S8) (x1 : Int32) : Option (Int32) := (if x1 < 0 then some ((-1)) else (if (s8_length s_o) ≤ x1 then some ((-1)) else (if 500 ≤ x1 then some ((-1)) else (aget 500 (s8_bytes s_o) x1).bind fun e_1 => some (e_1))))
def w_X8_byteAt (o : Nat → Nat) (cB cI cJ cZ : ClassId) (s_o : S8) : va_W := List.flatten [(gX8 o cB cI cJ cZ s_o)]
abbrev rm_X8_byteAt : Room := { frames := 0, cells := 0, slots := 0, locals := 0 }
set_option maxHeartbeats 4000000 in
set_option maxRecDepth 100000 in
theorem c_X8_byteAt (l : Launch) (D : gG) (cB cI cJ cZ : ClassId) (o : Nat → Nat) (s_o : S8) (x1 : Int32) (r : Int32) (hf : F_X8_byteAt s_o x1 = some r) : gM l D (tyL cB cI cJ cZ) yX8_byteAt cX8_byteAt 2 (some .int) rm_X8_byteAt [.ref (o 0), .int x1] (w_X8_byteAt o cB cI cJ cZ s_o) (some (.int r)) (w_X8_byteAt o cB cI cJ cZ s_o) := by
  refine met_of (by decide) (Nat.le_of_ble_eq_true rfl) ?_
  intro p e s m args below meth c A cx hr hA
  show gW p l e rm_X8_byteAt s m args below meth c D A 2 _ 0 0 _ [(0, .ref (o 0)), (1, .int x1)] 0 []
  rw [F_X8_byteAt] at hf
  refine g_iln cx 1 dX8_byteAt_0 rfl ?_
  refine g_if_lt (tgt := 30) cx hf dX8_byteAt_1 rfl (fun hf => ?_) (fun hf => ?_)
  · refine g_ic cx dX8_byteAt_30 k_icm1 ?_
    exact g_iret (ovf := fun (r : Int32) => (some (.int r))) (wf := fun (r : Int32) => (w_X8_byteAt o cB cI cJ cZ s_o)) cx hA hr hf rfl rfl dX8_byteAt_31
  · refine g_iln cx 1 dX8_byteAt_4 rfl ?_
    refine g_aln cx 0 dX8_byteAt_5 rfl ?_
    refine fg_RX8_15 cx 0 rfl rfl dX8_byteAt_6 ?_
    refine g_ic_ge (tgt := 30) cx hf dX8_byteAt_9 rfl (fun hf => ?_) (fun hf => ?_)
    · refine g_ic cx dX8_byteAt_30 k_icm1 ?_
      exact g_iret (ovf := fun (r : Int32) => (some (.int r))) (wf := fun (r : Int32) => (w_X8_byteAt o cB cI cJ cZ s_o)) cx hA hr hf rfl rfl dX8_byteAt_31
    · refine g_iln cx 1 dX8_byteAt_12 rfl ?_
      refine g_aln cx 0 dX8_byteAt_13 rfl ?_
      refine fg_RX8_9 cx 0 rfl rfl dX8_byteAt_14 ?_
      refine g_alen cx 1 0 rfl rfl rfl dX8_byteAt_17 ?_
      refine g_ic_ge (tgt := 30) cx hf dX8_byteAt_18 rfl (fun hf => ?_) (fun hf => ?_)
      · refine g_ic cx dX8_byteAt_30 k_icm1 ?_
        exact g_iret (ovf := fun (r : Int32) => (some (.int r))) (wf := fun (r : Int32) => (w_X8_byteAt o cB cI cJ cZ s_o)) cx hA hr hf rfl rfl dX8_byteAt_31
      · refine g_aln cx 0 dX8_byteAt_21 rfl ?_
        refine fg_RX8_9 cx 0 rfl rfl dX8_byteAt_22 ?_
        refine g_iln cx 1 dX8_byteAt_25 rfl ?_
        refine g_bald cx 1 0 hf rfl rfl dX8_byteAt_26 (fun e_1 hf => ?_)
        refine g_goto (tgt := 31) cx dX8_byteAt_27 rfl ?_
        exact g_iret (ovf := fun (r : Int32) => (some (.int r))) (wf := fun (r : Int32) => (w_X8_byteAt o cB cI cJ cZ s_o)) cx hA hr hf rfl rfl dX8_byteAt_31
def tX8_advance_11 : List Nat := 42 :: 180 :: 0 :: 19 :: 4 :: 96 :: 181 :: 0 :: 22 :: 177 :: []
def tX8_advance_10 : List Nat := 42 :: 27 :: 16 :: 59 :: 160 :: 0 :: 7 :: 6 :: 167 :: 0 :: 4 :: 7 :: 181 :: 0 :: 25 :: 42 :: tX8_advance_11
def tX8_advance_9 : List Nat := 16 :: 48 :: 159 :: 0 :: 7 :: 5 :: 167 :: 0 :: 4 :: 7 :: 181 :: 0 :: 25 :: 167 :: 0 :: 28 :: tX8_advance_10
def tX8_advance_8 : List Nat := 0 :: 22 :: 42 :: 180 :: 0 :: 22 :: 42 :: 180 :: 0 :: 19 :: 100 :: 5 :: 160 :: 0 :: 13 :: 27 :: tX8_advance_9
def tX8_advance_7 : List Nat := 28 :: 181 :: 0 :: 22 :: 42 :: 42 :: 180 :: 0 :: 22 :: 42 :: 180 :: 0 :: 19 :: 100 :: 4 :: 159 :: tX8_advance_8
def tX8_advance_6 : List Nat := 57 :: 163 :: 0 :: 63 :: 42 :: 42 :: 42 :: 180 :: 0 :: 19 :: 16 :: 48 :: 16 :: 57 :: 182 :: 0 :: tX8_advance_7
def tX8_advance_5 : List Nat := 0 :: 28 :: 181 :: 0 :: 22 :: 167 :: 0 :: 100 :: 27 :: 16 :: 48 :: 161 :: 0 :: 69 :: 27 :: 16 :: tX8_advance_6
def tX8_advance_4 : List Nat := 42 :: 4 :: 181 :: 0 :: 25 :: 42 :: 42 :: 42 :: 180 :: 0 :: 19 :: 16 :: 97 :: 16 :: 122 :: 182 :: tX8_advance_5
def tX8_advance_3 : List Nat := 22 :: 167 :: 0 :: 136 :: 27 :: 16 :: 97 :: 161 :: 0 :: 33 :: 27 :: 16 :: 122 :: 163 :: 0 :: 27 :: tX8_advance_4
def tX8_advance_2 : List Nat := 15 :: 161 :: 0 :: 19 :: 42 :: 3 :: 181 :: 0 :: 25 :: 42 :: 42 :: 180 :: 0 :: 19 :: 181 :: 0 :: tX8_advance_3
def tX8_advance_1 : List Nat := 42 :: 42 :: 180 :: 0 :: 19 :: 182 :: 0 :: 32 :: 60 :: 42 :: 180 :: 0 :: 19 :: 42 :: 180 :: 0 :: tX8_advance_2
def tX8_advance_0 : List Nat := 42 :: 42 :: 42 :: 180 :: 0 :: 22 :: 16 :: 32 :: 16 :: 32 :: 182 :: 0 :: 28 :: 181 :: 0 :: 19 :: tX8_advance_1
theorem tX8_advancef_0 : (cX8_advance.data.toList.map UInt8.toNat).drop 0 = tX8_advance_0 := by decide +kernel
theorem tX8_advancef_1 : (cX8_advance.data.toList.map UInt8.toNat).drop 16 = tX8_advance_1 := fd_next (k := 0) tX8_advancef_0 rfl
theorem tX8_advancef_2 : (cX8_advance.data.toList.map UInt8.toNat).drop 32 = tX8_advance_2 := fd_next (k := 16) tX8_advancef_1 rfl
theorem tX8_advancef_3 : (cX8_advance.data.toList.map UInt8.toNat).drop 48 = tX8_advance_3 := fd_next (k := 32) tX8_advancef_2 rfl
theorem tX8_advancef_4 : (cX8_advance.data.toList.map UInt8.toNat).drop 64 = tX8_advance_4 := fd_next (k := 48) tX8_advancef_3 rfl
theorem tX8_advancef_5 : (cX8_advance.data.toList.map UInt8.toNat).drop 80 = tX8_advance_5 := fd_next (k := 64) tX8_advancef_4 rfl
theorem tX8_advancef_6 : (cX8_advance.data.toList.map UInt8.toNat).drop 96 = tX8_advance_6 := fd_next (k := 80) tX8_advancef_5 rfl
theorem tX8_advancef_7 : (cX8_advance.data.toList.map UInt8.toNat).drop 112 = tX8_advance_7 := fd_next (k := 96) tX8_advancef_6 rfl
theorem tX8_advancef_8 : (cX8_advance.data.toList.map UInt8.toNat).drop 128 = tX8_advance_8 := fd_next (k := 112) tX8_advancef_7 rfl
theorem tX8_advancef_9 : (cX8_advance.data.toList.map UInt8.toNat).drop 144 = tX8_advance_9 := fd_next (k := 128) tX8_advancef_8 rfl
theorem tX8_advancef_10 : (cX8_advance.data.toList.map UInt8.toNat).drop 160 = tX8_advance_10 := fd_next (k := 144) tX8_advancef_9 rfl
theorem tX8_advancef_11 : (cX8_advance.data.toList.map UInt8.toNat).drop 176 = tX8_advance_11 := fd_next (k := 160) tX8_advancef_10 rfl
theorem dX8_advance_0 : decode cX8_advance 0 = .ok (.aload_n 0, 1) := dk_42 (fdB_of (k := 0) tX8_advancef_0 0 42 rfl)
theorem dX8_advance_1 : decode cX8_advance 1 = .ok (.aload_n 0, 1) := dk_42 (fdB_of (k := 0) tX8_advancef_0 1 42 rfl)
theorem dX8_advance_2 : decode cX8_advance 2 = .ok (.aload_n 0, 1) := dk_42 (fdB_of (k := 0) tX8_advancef_0 2 42 rfl)
theorem dX8_advance_3 : decode cX8_advance 3 = .ok (.getfield 22, 3) := dk_180 (fdB_of (k := 0) tX8_advancef_0 3 180 rfl) (fdB_of (k := 0) tX8_advancef_0 4 0 rfl) (fdB_of (k := 0) tX8_advancef_0 5 22 rfl)
theorem dX8_advance_6 : decode cX8_advance 6 = .ok (.bipush 32, 2) := dk_16 (fdB_of (k := 0) tX8_advancef_0 6 16 rfl) (fdB_of (k := 0) tX8_advancef_0 7 32 rfl) (by decide +kernel)
theorem dX8_advance_8 : decode cX8_advance 8 = .ok (.bipush 32, 2) := dk_16 (fdB_of (k := 0) tX8_advancef_0 8 16 rfl) (fdB_of (k := 0) tX8_advancef_0 9 32 rfl) (by decide +kernel)
theorem dX8_advance_10 : decode cX8_advance 10 = .ok (.invokevirtual 28, 3) := dk_182 (fdB_of (k := 0) tX8_advancef_0 10 182 rfl) (fdB_of (k := 0) tX8_advancef_0 11 0 rfl) (fdB_of (k := 0) tX8_advancef_0 12 28 rfl)
theorem dX8_advance_13 : decode cX8_advance 13 = .ok (.putfield 19, 3) := dk_181 (fdB_of (k := 0) tX8_advancef_0 13 181 rfl) (fdB_of (k := 0) tX8_advancef_0 14 0 rfl) (fdB_of (k := 0) tX8_advancef_0 15 19 rfl)
theorem dX8_advance_16 : decode cX8_advance 16 = .ok (.aload_n 0, 1) := dk_42 (fdB_of (k := 16) tX8_advancef_1 0 42 rfl)
theorem dX8_advance_17 : decode cX8_advance 17 = .ok (.aload_n 0, 1) := dk_42 (fdB_of (k := 16) tX8_advancef_1 1 42 rfl)
theorem dX8_advance_18 : decode cX8_advance 18 = .ok (.getfield 19, 3) := dk_180 (fdB_of (k := 16) tX8_advancef_1 2 180 rfl) (fdB_of (k := 16) tX8_advancef_1 3 0 rfl) (fdB_of (k := 16) tX8_advancef_1 4 19 rfl)
theorem dX8_advance_21 : decode cX8_advance 21 = .ok (.invokevirtual 32, 3) := dk_182 (fdB_of (k := 16) tX8_advancef_1 5 182 rfl) (fdB_of (k := 16) tX8_advancef_1 6 0 rfl) (fdB_of (k := 16) tX8_advancef_1 7 32 rfl)
theorem dX8_advance_24 : decode cX8_advance 24 = .ok (.istore_n 1, 1) := dk_60 (fdB_of (k := 16) tX8_advancef_1 8 60 rfl)
theorem dX8_advance_25 : decode cX8_advance 25 = .ok (.aload_n 0, 1) := dk_42 (fdB_of (k := 16) tX8_advancef_1 9 42 rfl)
theorem dX8_advance_26 : decode cX8_advance 26 = .ok (.getfield 19, 3) := dk_180 (fdB_of (k := 16) tX8_advancef_1 10 180 rfl) (fdB_of (k := 16) tX8_advancef_1 11 0 rfl) (fdB_of (k := 16) tX8_advancef_1 12 19 rfl)
theorem dX8_advance_29 : decode cX8_advance 29 = .ok (.aload_n 0, 1) := dk_42 (fdB_of (k := 16) tX8_advancef_1 13 42 rfl)
theorem dX8_advance_30 : decode cX8_advance 30 = .ok (.getfield 15, 3) := dk_180 (fdB_of (k := 16) tX8_advancef_1 14 180 rfl) (fdB_of (k := 16) tX8_advancef_1 15 0 rfl) (fdB_of (k := 32) tX8_advancef_2 0 15 rfl)
theorem dX8_advance_33 : decode cX8_advance 33 = .ok (.if_icmp .lt 19, 3) := dk_161 (fdB_of (k := 32) tX8_advancef_2 1 161 rfl) (fdB_of (k := 32) tX8_advancef_2 2 0 rfl) (fdB_of (k := 32) tX8_advancef_2 3 19 rfl) (by decide +kernel)
theorem dX8_advance_36 : decode cX8_advance 36 = .ok (.aload_n 0, 1) := dk_42 (fdB_of (k := 32) tX8_advancef_2 4 42 rfl)
theorem dX8_advance_37 : decode cX8_advance 37 = .ok (.iconst 0, 1) := dk_3 (fdB_of (k := 32) tX8_advancef_2 5 3 rfl)
theorem dX8_advance_38 : decode cX8_advance 38 = .ok (.putfield 25, 3) := dk_181 (fdB_of (k := 32) tX8_advancef_2 6 181 rfl) (fdB_of (k := 32) tX8_advancef_2 7 0 rfl) (fdB_of (k := 32) tX8_advancef_2 8 25 rfl)
theorem dX8_advance_41 : decode cX8_advance 41 = .ok (.aload_n 0, 1) := dk_42 (fdB_of (k := 32) tX8_advancef_2 9 42 rfl)
theorem dX8_advance_42 : decode cX8_advance 42 = .ok (.aload_n 0, 1) := dk_42 (fdB_of (k := 32) tX8_advancef_2 10 42 rfl)
theorem dX8_advance_43 : decode cX8_advance 43 = .ok (.getfield 19, 3) := dk_180 (fdB_of (k := 32) tX8_advancef_2 11 180 rfl) (fdB_of (k := 32) tX8_advancef_2 12 0 rfl) (fdB_of (k := 32) tX8_advancef_2 13 19 rfl)
theorem dX8_advance_46 : decode cX8_advance 46 = .ok (.putfield 22, 3) := dk_181 (fdB_of (k := 32) tX8_advancef_2 14 181 rfl) (fdB_of (k := 32) tX8_advancef_2 15 0 rfl) (fdB_of (k := 48) tX8_advancef_3 0 22 rfl)
theorem dX8_advance_49 : decode cX8_advance 49 = .ok (.goto 136, 3) := dk_167 (fdB_of (k := 48) tX8_advancef_3 1 167 rfl) (fdB_of (k := 48) tX8_advancef_3 2 0 rfl) (fdB_of (k := 48) tX8_advancef_3 3 136 rfl) (by decide +kernel)
theorem dX8_advance_52 : decode cX8_advance 52 = .ok (.iload_n 1, 1) := dk_27 (fdB_of (k := 48) tX8_advancef_3 4 27 rfl)
theorem dX8_advance_53 : decode cX8_advance 53 = .ok (.bipush 97, 2) := dk_16 (fdB_of (k := 48) tX8_advancef_3 5 16 rfl) (fdB_of (k := 48) tX8_advancef_3 6 97 rfl) (by decide +kernel)
theorem dX8_advance_55 : decode cX8_advance 55 = .ok (.if_icmp .lt 33, 3) := dk_161 (fdB_of (k := 48) tX8_advancef_3 7 161 rfl) (fdB_of (k := 48) tX8_advancef_3 8 0 rfl) (fdB_of (k := 48) tX8_advancef_3 9 33 rfl) (by decide +kernel)
theorem dX8_advance_58 : decode cX8_advance 58 = .ok (.iload_n 1, 1) := dk_27 (fdB_of (k := 48) tX8_advancef_3 10 27 rfl)
theorem dX8_advance_59 : decode cX8_advance 59 = .ok (.bipush 122, 2) := dk_16 (fdB_of (k := 48) tX8_advancef_3 11 16 rfl) (fdB_of (k := 48) tX8_advancef_3 12 122 rfl) (by decide +kernel)
theorem dX8_advance_61 : decode cX8_advance 61 = .ok (.if_icmp .gt 27, 3) := dk_163 (fdB_of (k := 48) tX8_advancef_3 13 163 rfl) (fdB_of (k := 48) tX8_advancef_3 14 0 rfl) (fdB_of (k := 48) tX8_advancef_3 15 27 rfl) (by decide +kernel)
theorem dX8_advance_64 : decode cX8_advance 64 = .ok (.aload_n 0, 1) := dk_42 (fdB_of (k := 64) tX8_advancef_4 0 42 rfl)
theorem dX8_advance_65 : decode cX8_advance 65 = .ok (.iconst 1, 1) := dk_4 (fdB_of (k := 64) tX8_advancef_4 1 4 rfl)
theorem dX8_advance_66 : decode cX8_advance 66 = .ok (.putfield 25, 3) := dk_181 (fdB_of (k := 64) tX8_advancef_4 2 181 rfl) (fdB_of (k := 64) tX8_advancef_4 3 0 rfl) (fdB_of (k := 64) tX8_advancef_4 4 25 rfl)
theorem dX8_advance_69 : decode cX8_advance 69 = .ok (.aload_n 0, 1) := dk_42 (fdB_of (k := 64) tX8_advancef_4 5 42 rfl)
theorem dX8_advance_70 : decode cX8_advance 70 = .ok (.aload_n 0, 1) := dk_42 (fdB_of (k := 64) tX8_advancef_4 6 42 rfl)
theorem dX8_advance_71 : decode cX8_advance 71 = .ok (.aload_n 0, 1) := dk_42 (fdB_of (k := 64) tX8_advancef_4 7 42 rfl)
theorem dX8_advance_72 : decode cX8_advance 72 = .ok (.getfield 19, 3) := dk_180 (fdB_of (k := 64) tX8_advancef_4 8 180 rfl) (fdB_of (k := 64) tX8_advancef_4 9 0 rfl) (fdB_of (k := 64) tX8_advancef_4 10 19 rfl)
theorem dX8_advance_75 : decode cX8_advance 75 = .ok (.bipush 97, 2) := dk_16 (fdB_of (k := 64) tX8_advancef_4 11 16 rfl) (fdB_of (k := 64) tX8_advancef_4 12 97 rfl) (by decide +kernel)
theorem dX8_advance_77 : decode cX8_advance 77 = .ok (.bipush 122, 2) := dk_16 (fdB_of (k := 64) tX8_advancef_4 13 16 rfl) (fdB_of (k := 64) tX8_advancef_4 14 122 rfl) (by decide +kernel)
theorem dX8_advance_79 : decode cX8_advance 79 = .ok (.invokevirtual 28, 3) := dk_182 (fdB_of (k := 64) tX8_advancef_4 15 182 rfl) (fdB_of (k := 80) tX8_advancef_5 0 0 rfl) (fdB_of (k := 80) tX8_advancef_5 1 28 rfl)
theorem dX8_advance_82 : decode cX8_advance 82 = .ok (.putfield 22, 3) := dk_181 (fdB_of (k := 80) tX8_advancef_5 2 181 rfl) (fdB_of (k := 80) tX8_advancef_5 3 0 rfl) (fdB_of (k := 80) tX8_advancef_5 4 22 rfl)
theorem dX8_advance_85 : decode cX8_advance 85 = .ok (.goto 100, 3) := dk_167 (fdB_of (k := 80) tX8_advancef_5 5 167 rfl) (fdB_of (k := 80) tX8_advancef_5 6 0 rfl) (fdB_of (k := 80) tX8_advancef_5 7 100 rfl) (by decide +kernel)
theorem dX8_advance_88 : decode cX8_advance 88 = .ok (.iload_n 1, 1) := dk_27 (fdB_of (k := 80) tX8_advancef_5 8 27 rfl)
theorem dX8_advance_89 : decode cX8_advance 89 = .ok (.bipush 48, 2) := dk_16 (fdB_of (k := 80) tX8_advancef_5 9 16 rfl) (fdB_of (k := 80) tX8_advancef_5 10 48 rfl) (by decide +kernel)
theorem dX8_advance_91 : decode cX8_advance 91 = .ok (.if_icmp .lt 69, 3) := dk_161 (fdB_of (k := 80) tX8_advancef_5 11 161 rfl) (fdB_of (k := 80) tX8_advancef_5 12 0 rfl) (fdB_of (k := 80) tX8_advancef_5 13 69 rfl) (by decide +kernel)
theorem dX8_advance_94 : decode cX8_advance 94 = .ok (.iload_n 1, 1) := dk_27 (fdB_of (k := 80) tX8_advancef_5 14 27 rfl)
theorem dX8_advance_95 : decode cX8_advance 95 = .ok (.bipush 57, 2) := dk_16 (fdB_of (k := 80) tX8_advancef_5 15 16 rfl) (fdB_of (k := 96) tX8_advancef_6 0 57 rfl) (by decide +kernel)
theorem dX8_advance_97 : decode cX8_advance 97 = .ok (.if_icmp .gt 63, 3) := dk_163 (fdB_of (k := 96) tX8_advancef_6 1 163 rfl) (fdB_of (k := 96) tX8_advancef_6 2 0 rfl) (fdB_of (k := 96) tX8_advancef_6 3 63 rfl) (by decide +kernel)
theorem dX8_advance_100 : decode cX8_advance 100 = .ok (.aload_n 0, 1) := dk_42 (fdB_of (k := 96) tX8_advancef_6 4 42 rfl)
theorem dX8_advance_101 : decode cX8_advance 101 = .ok (.aload_n 0, 1) := dk_42 (fdB_of (k := 96) tX8_advancef_6 5 42 rfl)
theorem dX8_advance_102 : decode cX8_advance 102 = .ok (.aload_n 0, 1) := dk_42 (fdB_of (k := 96) tX8_advancef_6 6 42 rfl)
theorem dX8_advance_103 : decode cX8_advance 103 = .ok (.getfield 19, 3) := dk_180 (fdB_of (k := 96) tX8_advancef_6 7 180 rfl) (fdB_of (k := 96) tX8_advancef_6 8 0 rfl) (fdB_of (k := 96) tX8_advancef_6 9 19 rfl)
theorem dX8_advance_106 : decode cX8_advance 106 = .ok (.bipush 48, 2) := dk_16 (fdB_of (k := 96) tX8_advancef_6 10 16 rfl) (fdB_of (k := 96) tX8_advancef_6 11 48 rfl) (by decide +kernel)
theorem dX8_advance_108 : decode cX8_advance 108 = .ok (.bipush 57, 2) := dk_16 (fdB_of (k := 96) tX8_advancef_6 12 16 rfl) (fdB_of (k := 96) tX8_advancef_6 13 57 rfl) (by decide +kernel)
theorem dX8_advance_110 : decode cX8_advance 110 = .ok (.invokevirtual 28, 3) := dk_182 (fdB_of (k := 96) tX8_advancef_6 14 182 rfl) (fdB_of (k := 96) tX8_advancef_6 15 0 rfl) (fdB_of (k := 112) tX8_advancef_7 0 28 rfl)
theorem dX8_advance_113 : decode cX8_advance 113 = .ok (.putfield 22, 3) := dk_181 (fdB_of (k := 112) tX8_advancef_7 1 181 rfl) (fdB_of (k := 112) tX8_advancef_7 2 0 rfl) (fdB_of (k := 112) tX8_advancef_7 3 22 rfl)
theorem dX8_advance_116 : decode cX8_advance 116 = .ok (.aload_n 0, 1) := dk_42 (fdB_of (k := 112) tX8_advancef_7 4 42 rfl)
theorem dX8_advance_117 : decode cX8_advance 117 = .ok (.aload_n 0, 1) := dk_42 (fdB_of (k := 112) tX8_advancef_7 5 42 rfl)
theorem dX8_advance_118 : decode cX8_advance 118 = .ok (.getfield 22, 3) := dk_180 (fdB_of (k := 112) tX8_advancef_7 6 180 rfl) (fdB_of (k := 112) tX8_advancef_7 7 0 rfl) (fdB_of (k := 112) tX8_advancef_7 8 22 rfl)
theorem dX8_advance_121 : decode cX8_advance 121 = .ok (.aload_n 0, 1) := dk_42 (fdB_of (k := 112) tX8_advancef_7 9 42 rfl)
theorem dX8_advance_122 : decode cX8_advance 122 = .ok (.getfield 19, 3) := dk_180 (fdB_of (k := 112) tX8_advancef_7 10 180 rfl) (fdB_of (k := 112) tX8_advancef_7 11 0 rfl) (fdB_of (k := 112) tX8_advancef_7 12 19 rfl)
theorem dX8_advance_125 : decode cX8_advance 125 = .ok (.isub, 1) := dk_100 (fdB_of (k := 112) tX8_advancef_7 13 100 rfl)
theorem dX8_advance_126 : decode cX8_advance 126 = .ok (.iconst 1, 1) := dk_4 (fdB_of (k := 112) tX8_advancef_7 14 4 rfl)
theorem dX8_advance_127 : decode cX8_advance 127 = .ok (.if_icmp .eq 22, 3) := dk_159 (fdB_of (k := 112) tX8_advancef_7 15 159 rfl) (fdB_of (k := 128) tX8_advancef_8 0 0 rfl) (fdB_of (k := 128) tX8_advancef_8 1 22 rfl) (by decide +kernel)
theorem dX8_advance_130 : decode cX8_advance 130 = .ok (.aload_n 0, 1) := dk_42 (fdB_of (k := 128) tX8_advancef_8 2 42 rfl)
theorem dX8_advance_131 : decode cX8_advance 131 = .ok (.getfield 22, 3) := dk_180 (fdB_of (k := 128) tX8_advancef_8 3 180 rfl) (fdB_of (k := 128) tX8_advancef_8 4 0 rfl) (fdB_of (k := 128) tX8_advancef_8 5 22 rfl)
theorem dX8_advance_134 : decode cX8_advance 134 = .ok (.aload_n 0, 1) := dk_42 (fdB_of (k := 128) tX8_advancef_8 6 42 rfl)
theorem dX8_advance_135 : decode cX8_advance 135 = .ok (.getfield 19, 3) := dk_180 (fdB_of (k := 128) tX8_advancef_8 7 180 rfl) (fdB_of (k := 128) tX8_advancef_8 8 0 rfl) (fdB_of (k := 128) tX8_advancef_8 9 19 rfl)
theorem dX8_advance_138 : decode cX8_advance 138 = .ok (.isub, 1) := dk_100 (fdB_of (k := 128) tX8_advancef_8 10 100 rfl)
theorem dX8_advance_139 : decode cX8_advance 139 = .ok (.iconst 2, 1) := dk_5 (fdB_of (k := 128) tX8_advancef_8 11 5 rfl)
theorem dX8_advance_140 : decode cX8_advance 140 = .ok (.if_icmp .ne 13, 3) := dk_160 (fdB_of (k := 128) tX8_advancef_8 12 160 rfl) (fdB_of (k := 128) tX8_advancef_8 13 0 rfl) (fdB_of (k := 128) tX8_advancef_8 14 13 rfl) (by decide +kernel)
theorem dX8_advance_143 : decode cX8_advance 143 = .ok (.iload_n 1, 1) := dk_27 (fdB_of (k := 128) tX8_advancef_8 15 27 rfl)
theorem dX8_advance_144 : decode cX8_advance 144 = .ok (.bipush 48, 2) := dk_16 (fdB_of (k := 144) tX8_advancef_9 0 16 rfl) (fdB_of (k := 144) tX8_advancef_9 1 48 rfl) (by decide +kernel)
theorem dX8_advance_146 : decode cX8_advance 146 = .ok (.if_icmp .eq 7, 3) := dk_159 (fdB_of (k := 144) tX8_advancef_9 2 159 rfl) (fdB_of (k := 144) tX8_advancef_9 3 0 rfl) (fdB_of (k := 144) tX8_advancef_9 4 7 rfl) (by decide +kernel)
theorem dX8_advance_149 : decode cX8_advance 149 = .ok (.iconst 2, 1) := dk_5 (fdB_of (k := 144) tX8_advancef_9 5 5 rfl)
theorem dX8_advance_150 : decode cX8_advance 150 = .ok (.goto 4, 3) := dk_167 (fdB_of (k := 144) tX8_advancef_9 6 167 rfl) (fdB_of (k := 144) tX8_advancef_9 7 0 rfl) (fdB_of (k := 144) tX8_advancef_9 8 4 rfl) (by decide +kernel)
theorem dX8_advance_153 : decode cX8_advance 153 = .ok (.iconst 4, 1) := dk_7 (fdB_of (k := 144) tX8_advancef_9 9 7 rfl)
theorem dX8_advance_154 : decode cX8_advance 154 = .ok (.putfield 25, 3) := dk_181 (fdB_of (k := 144) tX8_advancef_9 10 181 rfl) (fdB_of (k := 144) tX8_advancef_9 11 0 rfl) (fdB_of (k := 144) tX8_advancef_9 12 25 rfl)
theorem dX8_advance_157 : decode cX8_advance 157 = .ok (.goto 28, 3) := dk_167 (fdB_of (k := 144) tX8_advancef_9 13 167 rfl) (fdB_of (k := 144) tX8_advancef_9 14 0 rfl) (fdB_of (k := 144) tX8_advancef_9 15 28 rfl) (by decide +kernel)
theorem dX8_advance_160 : decode cX8_advance 160 = .ok (.aload_n 0, 1) := dk_42 (fdB_of (k := 160) tX8_advancef_10 0 42 rfl)
theorem dX8_advance_161 : decode cX8_advance 161 = .ok (.iload_n 1, 1) := dk_27 (fdB_of (k := 160) tX8_advancef_10 1 27 rfl)
theorem dX8_advance_162 : decode cX8_advance 162 = .ok (.bipush 59, 2) := dk_16 (fdB_of (k := 160) tX8_advancef_10 2 16 rfl) (fdB_of (k := 160) tX8_advancef_10 3 59 rfl) (by decide +kernel)
theorem dX8_advance_164 : decode cX8_advance 164 = .ok (.if_icmp .ne 7, 3) := dk_160 (fdB_of (k := 160) tX8_advancef_10 4 160 rfl) (fdB_of (k := 160) tX8_advancef_10 5 0 rfl) (fdB_of (k := 160) tX8_advancef_10 6 7 rfl) (by decide +kernel)
theorem dX8_advance_167 : decode cX8_advance 167 = .ok (.iconst 3, 1) := dk_6 (fdB_of (k := 160) tX8_advancef_10 7 6 rfl)
theorem dX8_advance_168 : decode cX8_advance 168 = .ok (.goto 4, 3) := dk_167 (fdB_of (k := 160) tX8_advancef_10 8 167 rfl) (fdB_of (k := 160) tX8_advancef_10 9 0 rfl) (fdB_of (k := 160) tX8_advancef_10 10 4 rfl) (by decide +kernel)
theorem dX8_advance_171 : decode cX8_advance 171 = .ok (.iconst 4, 1) := dk_7 (fdB_of (k := 160) tX8_advancef_10 11 7 rfl)
theorem dX8_advance_172 : decode cX8_advance 172 = .ok (.putfield 25, 3) := dk_181 (fdB_of (k := 160) tX8_advancef_10 12 181 rfl) (fdB_of (k := 160) tX8_advancef_10 13 0 rfl) (fdB_of (k := 160) tX8_advancef_10 14 25 rfl)
theorem dX8_advance_175 : decode cX8_advance 175 = .ok (.aload_n 0, 1) := dk_42 (fdB_of (k := 160) tX8_advancef_10 15 42 rfl)
theorem dX8_advance_176 : decode cX8_advance 176 = .ok (.aload_n 0, 1) := dk_42 (fdB_of (k := 176) tX8_advancef_11 0 42 rfl)
theorem dX8_advance_177 : decode cX8_advance 177 = .ok (.getfield 19, 3) := dk_180 (fdB_of (k := 176) tX8_advancef_11 1 180 rfl) (fdB_of (k := 176) tX8_advancef_11 2 0 rfl) (fdB_of (k := 176) tX8_advancef_11 3 19 rfl)
theorem dX8_advance_180 : decode cX8_advance 180 = .ok (.iconst 1, 1) := dk_4 (fdB_of (k := 176) tX8_advancef_11 4 4 rfl)
theorem dX8_advance_181 : decode cX8_advance 181 = .ok (.iadd, 1) := dk_96 (fdB_of (k := 176) tX8_advancef_11 5 96 rfl)
theorem dX8_advance_182 : decode cX8_advance 182 = .ok (.putfield 22, 3) := dk_181 (fdB_of (k := 176) tX8_advancef_11 6 181 rfl) (fdB_of (k := 176) tX8_advancef_11 7 0 rfl) (fdB_of (k := 176) tX8_advancef_11 8 22 rfl)
theorem dX8_advance_185 : decode cX8_advance 185 = .ok (.return_, 1) := dk_177 (fdB_of (k := 176) tX8_advancef_11 9 177 rfl)

theorem k_bp48 : (Int8.ofInt (48)).toInt32 = 48 := by decide
theorem k_bp57 : (Int8.ofInt (57)).toInt32 = 57 := by decide
theorem k_bp59 : (Int8.ofInt (59)).toInt32 = 59 := by decide
theorem k_bp97 : (Int8.ofInt (97)).toInt32 = 97 := by decide
theorem k_bp122 : (Int8.ofInt (122)).toInt32 = 122 := by decide
theorem q0_0 : Cond.selects RX8 yX8_behind yX8_behind ∈ TT := tq0 0 rfl rfl
theorem q0_1 : Cond.selects RX8 yX8_byteAt yX8_byteAt ∈ TT := tq0 1 rfl rfl
theorem q1_2 : Cond.initialized RX8 ∈ TT := tq1 2 rfl rfl
theorem q2_83 : Cond.methodLink RX8 28 yX8_behind ∈ TT := tq2 83 rfl rfl
theorem q2_85 : Cond.instanceMethod yX8_behind ∈ TT := tq2 85 rfl rfl
theorem q2_86 : Cond.code yX8_behind cX8_behind 5 (some .int) ∈ TT := tq2 86 rfl rfl
theorem q2_87 : Cond.methodLink RX8 32 yX8_byteAt ∈ TT := tq2 87 rfl rfl
theorem q2_89 : Cond.instanceMethod yX8_byteAt ∈ TT := tq2 89 rfl rfl
theorem q2_90 : Cond.code yX8_byteAt cX8_byteAt 2 (some .int) ∈ TT := tq2 90 rfl rfl
theorem fg_RX8_19 {p : Program} {l : Launch} {e : Env} {R : Room} {s : State} {m : MethodId} {args : Array Value} {below : List Frame} {meth : Method} {c : Code} {D : gG} {tys : List (ClassId × FieldType)} {A : Nat → Prop} {nL : Nat} {Q : State → Prop} {cells slots : Nat} {cc : ByteArray} {ws : va_W} {L : List (Nat × Value)} {pc : Nat} {stk : List Value} (cx : gX p s m args meth c cc nL RX8 D tys A) {a : Nat} {fs : List Value} {v : Value} (q0 : Nat) (he : ws[q0]? = some (a, .inr (6, fs))) (hv : fs[2]? = some v) (hd : decode cc pc = .ok (.getfield 19, 3)) (kk : gW p l e R s m args below meth c D A nL Q cells slots ws L (pc + 3) (v :: stk)) : gW p l e R s m args below meth c D A nL Q cells slots ws L pc (.ref a :: stk) :=
  g_get cx (C := RX8) (T := TX8) (N := 5) inT8 rfl 2 (Nat.le_of_ble_eq_true rfl) q1_37 rfl q0 he hv hd kk
theorem lk_RX8_28 : vlk RX8 28 yX8_behind cX8_behind 5 (some .int) 3 := ⟨List.forall_mem_cons.mpr ⟨q2_83, List.forall_mem_cons.mpr ⟨q2_85, List.forall_mem_cons.mpr ⟨q0_0, List.forall_mem_cons.mpr ⟨q1_2, fun _ h => absurd h List.not_mem_nil⟩⟩⟩⟩, q2_86, by decide, by decide, by decide +kernel⟩
theorem fg_RX8_22 {p : Program} {l : Launch} {e : Env} {R : Room} {s : State} {m : MethodId} {args : Array Value} {below : List Frame} {meth : Method} {c : Code} {D : gG} {tys : List (ClassId × FieldType)} {A : Nat → Prop} {nL : Nat} {Q : State → Prop} {cells slots : Nat} {cc : ByteArray} {ws : va_W} {L : List (Nat × Value)} {pc : Nat} {stk : List Value} (cx : gX p s m args meth c cc nL RX8 D tys A) {a : Nat} {fs : List Value} {v : Value} (q0 : Nat) (he : ws[q0]? = some (a, .inr (6, fs))) (hv : fs[3]? = some v) (hd : decode cc pc = .ok (.getfield 22, 3)) (kk : gW p l e R s m args below meth c D A nL Q cells slots ws L (pc + 3) (v :: stk)) : gW p l e R s m args below meth c D A nL Q cells slots ws L pc (.ref a :: stk) :=
  g_get cx (C := RX8) (T := TX8) (N := 5) inT8 rfl 3 (Nat.le_of_ble_eq_true rfl) q1_38 rfl q0 he hv hd kk
theorem lk_RX8_32 : vlk RX8 32 yX8_byteAt cX8_byteAt 2 (some .int) 1 := ⟨List.forall_mem_cons.mpr ⟨q2_87, List.forall_mem_cons.mpr ⟨q2_89, List.forall_mem_cons.mpr ⟨q0_1, List.forall_mem_cons.mpr ⟨q1_2, fun _ h => absurd h List.not_mem_nil⟩⟩⟩⟩, q2_90, by decide, by decide, by decide +kernel⟩
def F_X8_advance_b172 (zs_o : S8) (k1 : Int32) : Option (S8) := nm (u8_sort zs_o k1) fun s_o_1 => nm (u8_end s_o_1 ((s8_start s_o_1) + 1)) fun s_o_2 => some (s_o_2)
def F_X8_advance_b160 (v1 : Int32) (zs_o : S8) : Option (S8) := (if v1 = 59 then F_X8_advance_b172  zs_o 3 else F_X8_advance_b172  zs_o 4)
def F_X8_advance_b154 (zs_o : S8) (k1 : Int32) : Option (S8) := nm (u8_sort zs_o k1) fun s_o_3 => some (s_o_3)
def F_X8_advance_b149 (zs_o : S8) : Option (S8) := F_X8_advance_b154  zs_o 2
def F_X8_advance_b153 (zs_o : S8) : Option (S8) := F_X8_advance_b154  zs_o 4
def F_X8_advance_b88 (v1 : Int32) (zs_o : S8) : Option (S8) := (if v1 < 48 then F_X8_advance_b160  v1 zs_o else (if 57 < v1 then F_X8_advance_b160  v1 zs_o else (F_X8_behind zs_o (s8_start zs_o) 48 57).bind fun q_4 => nm (u8_end zs_o q_4) fun s_o_5 => (if ((s8_end s_o_5) - (s8_start s_o_5)) = 1 then F_X8_advance_b149  s_o_5 else (if ((s8_end s_o_5) - (s8_start s_o_5)) = 2 then (if v1 = 48 then F_X8_advance_b153  s_o_5 else F_X8_advance_b149  s_o_5) else F_X8_advance_b153  s_o_5))))
def F_X8_advance (s_o : S8) : Option (S8) := (F_X8_behind s_o (s8_end s_o) 32 32).bind fun q_6 => nm (u8_start s_o q_6) fun s_o_7 => (F_X8_byteAt s_o_7 (s8_start s_o_7)).bind fun q_8 => nm q_8 fun v1_9 => (if (s8_start s_o_7) < (s8_length s_o_7) then (if v1_9 < 97 then F_X8_advance_b88  v1_9 s_o_7 else (if 122 < v1_9 then F_X8_advance_b88  v1_9 s_o_7 else nm (u8_sort s_o_7 1) fun s_o_10 => (F_X8_behind s_o_10 (s8_start s_o_10) 97 122).bind fun q_11 => nm (u8_end s_o_10 q_11) fun s_o_12 => some (s_o_12))) else nm (u8_sort s_o_7 0) fun s_o_13 => nm (u8_end s_o_13 (s8_start s_o_13)) fun s_o_14 => some (s_o_14))
def w_X8_advance (o : Nat → Nat) (cB cI cJ cZ : ClassId) (s_o : S8) : va_W := List.flatten [(gX8 o cB cI cJ cZ s_o)]
abbrev rm_X8_advance : Room := { frames := 1, cells := 0, slots := 0, locals := 24 }
set_option maxHeartbeats 4000000 in
set_option maxRecDepth 100000 in
theorem c_X8_advance (l : Launch) (D : gG) (cB cI cJ cZ : ClassId) (o : Nat → Nat) (s_o : S8) (r : S8) (hf : F_X8_advance s_o = some r) : gM l D (tyL cB cI cJ cZ) yX8_advance cX8_advance 2 none rm_X8_advance [.ref (o 0)] (w_X8_advance o cB cI cJ cZ s_o) none (w_X8_advance o cB cI cJ cZ r) := by
  refine met_of (by decide) (Nat.le_of_ble_eq_true rfl) ?_
  intro p e s m args below meth c A cx hr hA
  show gW p l e rm_X8_advance s m args below meth c D A 2 _ 0 0 _ [(0, .ref (o 0))] 0 []
  have h172 : ∀ (zs_o : S8) (k1 : Int32), F_X8_advance_b172  zs_o k1 = some r → gW p l e rm_X8_advance s m args below meth c D A 2 (MQ below (QM D (tyL cB cI cJ cZ) none (w_X8_advance o cB cI cJ cZ s_o) (w_X8_advance o cB cI cJ cZ r) s.heap.size) args s 0 0 A) 0 0 (w_X8_advance o cB cI cJ cZ zs_o) [(0, .ref (o 0))] 172 [.int k1, .ref (o 0)] := by
    intro zs_o k1 hf
    rw [F_X8_advance_b172] at hf
    refine fp_RX8_25 cx 0 rfl (Nat.le_of_ble_eq_true rfl) (ws' := (w_X8_advance o cB cI cJ cZ (u8_sort zs_o k1))) rfl dX8_advance_172 ?_
    refine g_nm (w := fun s_o_1 => (w_X8_advance o cB cI cJ cZ s_o_1)) hf (fun s_o_1 hf => ?_)
    refine g_aln cx 0 dX8_advance_175 rfl ?_
    refine g_aln cx 0 dX8_advance_176 rfl ?_
    refine fg_RX8_19 cx 0 rfl rfl dX8_advance_177 ?_
    refine g_ic cx dX8_advance_180 k_ic1 ?_
    refine g_iadd cx dX8_advance_181 ?_
    refine fp_RX8_22 cx 0 rfl (Nat.le_of_ble_eq_true rfl) (ws' := (w_X8_advance o cB cI cJ cZ (u8_end s_o_1 ((s8_start s_o_1) + 1)))) rfl dX8_advance_182 ?_
    refine g_nm (w := fun s_o_2 => (w_X8_advance o cB cI cJ cZ s_o_2)) hf (fun s_o_2 hf => ?_)
    exact g_vret (ovf := fun (r : S8) => none) (wf := fun (r : S8) => (w_X8_advance o cB cI cJ cZ r)) cx hA hr hf rfl rfl dX8_advance_185
  have h160 : ∀ (v1 : Int32) (zs_o : S8), F_X8_advance_b160  v1 zs_o = some r → gW p l e rm_X8_advance s m args below meth c D A 2 (MQ below (QM D (tyL cB cI cJ cZ) none (w_X8_advance o cB cI cJ cZ s_o) (w_X8_advance o cB cI cJ cZ r) s.heap.size) args s 0 0 A) 0 0 (w_X8_advance o cB cI cJ cZ zs_o) [(0, .ref (o 0)), (1, .int v1)] 160 [] := by
    intro v1 zs_o hf
    rw [F_X8_advance_b160] at hf
    refine g_aln cx 0 dX8_advance_160 rfl ?_
    refine g_iln cx 1 dX8_advance_161 rfl ?_
    refine g_bp cx dX8_advance_162 k_bp59 ?_
    refine g_ic_ne (tgt := 171) cx hf dX8_advance_164 rfl (fun hf => ?_) (fun hf => ?_)
    · refine g_ic cx dX8_advance_171 k_ic4 ?_
      refine g_sub [0] rfl ?_
      exact h172 _ _ hf
    · refine g_ic cx dX8_advance_167 k_ic3 ?_
      refine g_goto (tgt := 172) cx dX8_advance_168 rfl ?_
      refine g_sub [0] rfl ?_
      exact h172 _ _ hf
  have h154 : ∀ (zs_o : S8) (k1 : Int32), F_X8_advance_b154  zs_o k1 = some r → gW p l e rm_X8_advance s m args below meth c D A 2 (MQ below (QM D (tyL cB cI cJ cZ) none (w_X8_advance o cB cI cJ cZ s_o) (w_X8_advance o cB cI cJ cZ r) s.heap.size) args s 0 0 A) 0 0 (w_X8_advance o cB cI cJ cZ zs_o) [] 154 [.int k1, .ref (o 0)] := by
    intro zs_o k1 hf
    rw [F_X8_advance_b154] at hf
    refine fp_RX8_25 cx 0 rfl (Nat.le_of_ble_eq_true rfl) (ws' := (w_X8_advance o cB cI cJ cZ (u8_sort zs_o k1))) rfl dX8_advance_154 ?_
    refine g_nm (w := fun s_o_3 => (w_X8_advance o cB cI cJ cZ s_o_3)) hf (fun s_o_3 hf => ?_)
    refine g_goto (tgt := 185) cx dX8_advance_157 rfl ?_
    exact g_vret (ovf := fun (r : S8) => none) (wf := fun (r : S8) => (w_X8_advance o cB cI cJ cZ r)) cx hA hr hf rfl rfl dX8_advance_185
  have h149 : ∀ (zs_o : S8), F_X8_advance_b149  zs_o = some r → gW p l e rm_X8_advance s m args below meth c D A 2 (MQ below (QM D (tyL cB cI cJ cZ) none (w_X8_advance o cB cI cJ cZ s_o) (w_X8_advance o cB cI cJ cZ r) s.heap.size) args s 0 0 A) 0 0 (w_X8_advance o cB cI cJ cZ zs_o) [] 149 [.ref (o 0)] := by
    intro zs_o hf
    rw [F_X8_advance_b149] at hf
    refine g_ic cx dX8_advance_149 k_ic2 ?_
    refine g_goto (tgt := 154) cx dX8_advance_150 rfl ?_
    exact h154 _ _ hf
  have h153 : ∀ (zs_o : S8), F_X8_advance_b153  zs_o = some r → gW p l e rm_X8_advance s m args below meth c D A 2 (MQ below (QM D (tyL cB cI cJ cZ) none (w_X8_advance o cB cI cJ cZ s_o) (w_X8_advance o cB cI cJ cZ r) s.heap.size) args s 0 0 A) 0 0 (w_X8_advance o cB cI cJ cZ zs_o) [] 153 [.ref (o 0)] := by
    intro zs_o hf
    rw [F_X8_advance_b153] at hf
    refine g_ic cx dX8_advance_153 k_ic4 ?_
    exact h154 _ _ hf
  have h88 : ∀ (v1 : Int32) (zs_o : S8), F_X8_advance_b88  v1 zs_o = some r → gW p l e rm_X8_advance s m args below meth c D A 2 (MQ below (QM D (tyL cB cI cJ cZ) none (w_X8_advance o cB cI cJ cZ s_o) (w_X8_advance o cB cI cJ cZ r) s.heap.size) args s 0 0 A) 0 0 (w_X8_advance o cB cI cJ cZ zs_o) [(0, .ref (o 0)), (1, .int v1)] 88 [] := by
    intro v1 zs_o hf
    rw [F_X8_advance_b88] at hf
    refine g_iln cx 1 dX8_advance_88 rfl ?_
    refine g_bp cx dX8_advance_89 k_bp48 ?_
    refine g_ic_lt (tgt := 160) cx hf dX8_advance_91 rfl (fun hf => ?_) (fun hf => ?_)
    · exact h160 _ _ hf
    · refine g_iln cx 1 dX8_advance_94 rfl ?_
      refine g_bp cx dX8_advance_95 k_bp57 ?_
      refine g_ic_gt (tgt := 160) cx hf dX8_advance_97 rfl (fun hf => ?_) (fun hf => ?_)
      · exact h160 _ _ hf
      · refine g_aln cx 0 dX8_advance_100 rfl ?_
        refine g_aln cx 0 dX8_advance_101 rfl ?_
        refine g_aln cx 0 dX8_advance_102 rfl ?_
        refine fg_RX8_19 cx 0 rfl rfl dX8_advance_103 ?_
        refine g_bp cx dX8_advance_106 k_bp48 ?_
        refine g_bp cx dX8_advance_108 k_bp57 ?_
        refine ob hf (fun q_4 hq_4 hf => ?_)
        refine g_callVGiR cx lk_RX8_28 (c_X8_behind l D cB cI cJ cZ o zs_o (s8_start zs_o) 48 57 q_4 hq_4) rfl [0] rfl rfl (ci := 6) (q1 := 0) rfl rfl rfl (Nat.le_of_ble_eq_true rfl) ⟨rfl, rfl, Nat.le_of_ble_eq_true rfl, Nat.le_of_ble_eq_true rfl⟩ dX8_advance_110 ?_
        refine fp_RX8_22 cx 0 rfl (Nat.le_of_ble_eq_true rfl) (ws' := (w_X8_advance o cB cI cJ cZ (u8_end zs_o q_4))) rfl dX8_advance_113 ?_
        refine g_nm (w := fun s_o_5 => (w_X8_advance o cB cI cJ cZ s_o_5)) hf (fun s_o_5 hf => ?_)
        refine g_aln cx 0 dX8_advance_116 rfl ?_
        refine g_aln cx 0 dX8_advance_117 rfl ?_
        refine fg_RX8_22 cx 0 rfl rfl dX8_advance_118 ?_
        refine g_aln cx 0 dX8_advance_121 rfl ?_
        refine fg_RX8_19 cx 0 rfl rfl dX8_advance_122 ?_
        refine g_isub cx dX8_advance_125 ?_
        refine g_ic cx dX8_advance_126 k_ic1 ?_
        refine g_ic_eq (tgt := 149) cx hf dX8_advance_127 rfl (fun hf => ?_) (fun hf => ?_)
        · refine g_sub [] rfl ?_
          exact h149 _ hf
        · refine g_aln cx 0 dX8_advance_130 rfl ?_
          refine fg_RX8_22 cx 0 rfl rfl dX8_advance_131 ?_
          refine g_aln cx 0 dX8_advance_134 rfl ?_
          refine fg_RX8_19 cx 0 rfl rfl dX8_advance_135 ?_
          refine g_isub cx dX8_advance_138 ?_
          refine g_ic cx dX8_advance_139 k_ic2 ?_
          refine g_ic_ne (tgt := 153) cx hf dX8_advance_140 rfl (fun hf => ?_) (fun hf => ?_)
          · refine g_sub [] rfl ?_
            exact h153 _ hf
          · refine g_iln cx 1 dX8_advance_143 rfl ?_
            refine g_bp cx dX8_advance_144 k_bp48 ?_
            refine g_ic_eq (tgt := 153) cx hf dX8_advance_146 rfl (fun hf => ?_) (fun hf => ?_)
            · refine g_sub [] rfl ?_
              exact h153 _ hf
            · refine g_sub [] rfl ?_
              exact h149 _ hf
  rw [F_X8_advance] at hf
  refine g_aln cx 0 dX8_advance_0 rfl ?_
  refine g_aln cx 0 dX8_advance_1 rfl ?_
  refine g_aln cx 0 dX8_advance_2 rfl ?_
  refine fg_RX8_22 cx 0 rfl rfl dX8_advance_3 ?_
  refine g_bp cx dX8_advance_6 k_bp32 ?_
  refine g_bp cx dX8_advance_8 k_bp32 ?_
  refine ob hf (fun q_6 hq_6 hf => ?_)
  refine g_callVGiR cx lk_RX8_28 (c_X8_behind l D cB cI cJ cZ o s_o (s8_end s_o) 32 32 q_6 hq_6) rfl [0] rfl rfl (ci := 6) (q1 := 0) rfl rfl rfl (Nat.le_of_ble_eq_true rfl) ⟨rfl, rfl, Nat.le_of_ble_eq_true rfl, Nat.le_of_ble_eq_true rfl⟩ dX8_advance_10 ?_
  refine fp_RX8_19 cx 0 rfl (Nat.le_of_ble_eq_true rfl) (ws' := (w_X8_advance o cB cI cJ cZ (u8_start s_o q_6))) rfl dX8_advance_13 ?_
  refine g_nm (w := fun s_o_7 => (w_X8_advance o cB cI cJ cZ s_o_7)) hf (fun s_o_7 hf => ?_)
  refine g_aln cx 0 dX8_advance_16 rfl ?_
  refine g_aln cx 0 dX8_advance_17 rfl ?_
  refine fg_RX8_19 cx 0 rfl rfl dX8_advance_18 ?_
  refine ob hf (fun q_8 hq_8 hf => ?_)
  refine g_callVGiR cx lk_RX8_32 (c_X8_byteAt l D cB cI cJ cZ o s_o_7 (s8_start s_o_7) q_8 hq_8) rfl [0] rfl rfl (ci := 6) (q1 := 0) rfl rfl rfl (Nat.le_of_ble_eq_true rfl) ⟨rfl, rfl, Nat.le_of_ble_eq_true rfl, Nat.le_of_ble_eq_true rfl⟩ dX8_advance_21 ?_
  refine g_isn cx (L2 := fun v1_9 => [(1, .int v1_9), (0, .ref (o 0))]) hf dX8_advance_24 (Nat.le_of_ble_eq_true rfl) (fun _ => rfl) (fun v1_9 hf => ?_)
  refine g_aln cx 1 dX8_advance_25 rfl ?_
  refine fg_RX8_19 cx 0 rfl rfl dX8_advance_26 ?_
  refine g_aln cx 1 dX8_advance_29 rfl ?_
  refine fg_RX8_15 cx 0 rfl rfl dX8_advance_30 ?_
  refine g_ic_lt (tgt := 52) cx hf dX8_advance_33 rfl (fun hf => ?_) (fun hf => ?_)
  · refine g_iln cx 0 dX8_advance_52 rfl ?_
    refine g_bp cx dX8_advance_53 k_bp97 ?_
    refine g_ic_lt (tgt := 88) cx hf dX8_advance_55 rfl (fun hf => ?_) (fun hf => ?_)
    · refine g_sub [1, 0] rfl ?_
      exact h88 _ _ hf
    · refine g_iln cx 0 dX8_advance_58 rfl ?_
      refine g_bp cx dX8_advance_59 k_bp122 ?_
      refine g_ic_gt (tgt := 88) cx hf dX8_advance_61 rfl (fun hf => ?_) (fun hf => ?_)
      · refine g_sub [1, 0] rfl ?_
        exact h88 _ _ hf
      · refine g_aln cx 1 dX8_advance_64 rfl ?_
        refine g_ic cx dX8_advance_65 k_ic1 ?_
        refine fp_RX8_25 cx 0 rfl (Nat.le_of_ble_eq_true rfl) (ws' := (w_X8_advance o cB cI cJ cZ (u8_sort s_o_7 1))) rfl dX8_advance_66 ?_
        refine g_nm (w := fun s_o_10 => (w_X8_advance o cB cI cJ cZ s_o_10)) hf (fun s_o_10 hf => ?_)
        refine g_aln cx 1 dX8_advance_69 rfl ?_
        refine g_aln cx 1 dX8_advance_70 rfl ?_
        refine g_aln cx 1 dX8_advance_71 rfl ?_
        refine fg_RX8_19 cx 0 rfl rfl dX8_advance_72 ?_
        refine g_bp cx dX8_advance_75 k_bp97 ?_
        refine g_bp cx dX8_advance_77 k_bp122 ?_
        refine ob hf (fun q_11 hq_11 hf => ?_)
        refine g_callVGiR cx lk_RX8_28 (c_X8_behind l D cB cI cJ cZ o s_o_10 (s8_start s_o_10) 97 122 q_11 hq_11) rfl [0] rfl rfl (ci := 6) (q1 := 0) rfl rfl rfl (Nat.le_of_ble_eq_true rfl) ⟨rfl, rfl, Nat.le_of_ble_eq_true rfl, Nat.le_of_ble_eq_true rfl⟩ dX8_advance_79 ?_
        refine fp_RX8_22 cx 0 rfl (Nat.le_of_ble_eq_true rfl) (ws' := (w_X8_advance o cB cI cJ cZ (u8_end s_o_10 q_11))) rfl dX8_advance_82 ?_
        refine g_nm (w := fun s_o_12 => (w_X8_advance o cB cI cJ cZ s_o_12)) hf (fun s_o_12 hf => ?_)
        refine g_goto (tgt := 185) cx dX8_advance_85 rfl ?_
        exact g_vret (ovf := fun (r : S8) => none) (wf := fun (r : S8) => (w_X8_advance o cB cI cJ cZ r)) cx hA hr hf rfl rfl dX8_advance_185
  · refine g_aln cx 1 dX8_advance_36 rfl ?_
    refine g_ic cx dX8_advance_37 k_ic0 ?_
    refine fp_RX8_25 cx 0 rfl (Nat.le_of_ble_eq_true rfl) (ws' := (w_X8_advance o cB cI cJ cZ (u8_sort s_o_7 0))) rfl dX8_advance_38 ?_
    refine g_nm (w := fun s_o_13 => (w_X8_advance o cB cI cJ cZ s_o_13)) hf (fun s_o_13 hf => ?_)
    refine g_aln cx 1 dX8_advance_41 rfl ?_
    refine g_aln cx 1 dX8_advance_42 rfl ?_
    refine fg_RX8_19 cx 0 rfl rfl dX8_advance_43 ?_
    refine fp_RX8_22 cx 0 rfl (Nat.le_of_ble_eq_true rfl) (ws' := (w_X8_advance o cB cI cJ cZ (u8_end s_o_13 (s8_start s_o_13)))) rfl dX8_advance_46 ?_
    refine g_nm (w := fun s_o_14 => (w_X8_advance o cB cI cJ cZ s_o_14)) hf (fun s_o_14 hf => ?_)
    refine g_goto (tgt := 185) cx dX8_advance_49 rfl ?_
    exact g_vret (ovf := fun (r : S8) => none) (wf := fun (r : S8) => (w_X8_advance o cB cI cJ cZ r)) cx hA hr hf rfl rfl dX8_advance_185
theorem dX8_start_0 : decode cX8_start 0 = .ok (.aload_n 0, 1) := by decide +kernel
theorem dX8_start_1 : decode cX8_start 1 = .ok (.getfield 19, 3) := by decide +kernel
theorem dX8_start_4 : decode cX8_start 4 = .ok (.ireturn, 1) := by decide +kernel


def F_X8_start (s_o : S8) : Option (Int32) := some ((s8_start s_o))
def w_X8_start (o : Nat → Nat) (cB cI cJ cZ : ClassId) (s_o : S8) : va_W := List.flatten [(gX8 o cB cI cJ cZ s_o)]
abbrev rm_X8_start : Room := { frames := 0, cells := 0, slots := 0, locals := 0 }
set_option maxHeartbeats 4000000 in
set_option maxRecDepth 100000 in
theorem c_X8_start (l : Launch) (D : gG) (cB cI cJ cZ : ClassId) (o : Nat → Nat) (s_o : S8) (r : Int32) (hf : F_X8_start s_o = some r) : gM l D (tyL cB cI cJ cZ) yX8_start cX8_start 1 (some .int) rm_X8_start [.ref (o 0)] (w_X8_start o cB cI cJ cZ s_o) (some (.int r)) (w_X8_start o cB cI cJ cZ s_o) := by
  refine met_of (by decide) (Nat.le_of_ble_eq_true rfl) ?_
  intro p e s m args below meth c A cx hr hA
  show gW p l e rm_X8_start s m args below meth c D A 1 _ 0 0 _ [(0, .ref (o 0))] 0 []
  rw [F_X8_start] at hf
  refine g_aln cx 0 dX8_start_0 rfl ?_
  refine fg_RX8_19 cx 0 rfl rfl dX8_start_1 ?_
  exact g_iret (ovf := fun (r : Int32) => (some (.int r))) (wf := fun (r : Int32) => (w_X8_start o cB cI cJ cZ s_o)) cx hA hr hf rfl rfl dX8_start_4
theorem dX8_isOut_0 : decode cX8_isOut 0 = .ok (.aload_n 0, 1) := by decide +kernel
theorem dX8_isOut_1 : decode cX8_isOut 1 = .ok (.getfield 25, 3) := by decide +kernel
theorem dX8_isOut_4 : decode cX8_isOut 4 = .ok (.ifCond .ne 7, 3) := by decide +kernel
theorem dX8_isOut_7 : decode cX8_isOut 7 = .ok (.iconst 1, 1) := by decide +kernel
theorem dX8_isOut_8 : decode cX8_isOut 8 = .ok (.goto 4, 3) := by decide +kernel
theorem dX8_isOut_11 : decode cX8_isOut 11 = .ok (.iconst 0, 1) := by decide +kernel
theorem dX8_isOut_12 : decode cX8_isOut 12 = .ok (.ireturn, 1) := by decide +kernel

theorem fg_RX8_25 {p : Program} {l : Launch} {e : Env} {R : Room} {s : State} {m : MethodId} {args : Array Value} {below : List Frame} {meth : Method} {c : Code} {D : gG} {tys : List (ClassId × FieldType)} {A : Nat → Prop} {nL : Nat} {Q : State → Prop} {cells slots : Nat} {cc : ByteArray} {ws : va_W} {L : List (Nat × Value)} {pc : Nat} {stk : List Value} (cx : gX p s m args meth c cc nL RX8 D tys A) {a : Nat} {fs : List Value} {v : Value} (q0 : Nat) (he : ws[q0]? = some (a, .inr (6, fs))) (hv : fs[4]? = some v) (hd : decode cc pc = .ok (.getfield 25, 3)) (kk : gW p l e R s m args below meth c D A nL Q cells slots ws L (pc + 3) (v :: stk)) : gW p l e R s m args below meth c D A nL Q cells slots ws L pc (.ref a :: stk) :=
  g_get cx (C := RX8) (T := TX8) (N := 5) inT8 rfl 4 (Nat.le_of_ble_eq_true rfl) q1_39 rfl q0 he hv hd kk
def F_X8_isOut (s_o : S8) : Option (Int32) := (if (s8_sort s_o) = 0 then some (1) else some (0))
def w_X8_isOut (o : Nat → Nat) (cB cI cJ cZ : ClassId) (s_o : S8) : va_W := List.flatten [(gX8 o cB cI cJ cZ s_o)]
abbrev rm_X8_isOut : Room := { frames := 0, cells := 0, slots := 0, locals := 0 }
set_option maxHeartbeats 4000000 in
set_option maxRecDepth 100000 in
theorem c_X8_isOut (l : Launch) (D : gG) (cB cI cJ cZ : ClassId) (o : Nat → Nat) (s_o : S8) (r : Int32) (hf : F_X8_isOut s_o = some r) : gM l D (tyL cB cI cJ cZ) yX8_isOut cX8_isOut 1 (some .boolean) rm_X8_isOut [.ref (o 0)] (w_X8_isOut o cB cI cJ cZ s_o) (some (.int r)) (w_X8_isOut o cB cI cJ cZ s_o) := by
  refine met_of (by decide) (Nat.le_of_ble_eq_true rfl) ?_
  intro p e s m args below meth c A cx hr hA
  show gW p l e rm_X8_isOut s m args below meth c D A 1 _ 0 0 _ [(0, .ref (o 0))] 0 []
  rw [F_X8_isOut] at hf
  refine g_aln cx 0 dX8_isOut_0 rfl ?_
  refine fg_RX8_25 cx 0 rfl rfl dX8_isOut_1 ?_
  refine g_if_ne (tgt := 11) cx hf dX8_isOut_4 rfl (fun hf => ?_) (fun hf => ?_)
  · refine g_ic cx dX8_isOut_11 k_ic0 ?_
    exact g_zret (ovf := fun (r : Int32) => (some (.int r))) (wf := fun (r : Int32) => (w_X8_isOut o cB cI cJ cZ s_o)) cx hA hr rfl hf rfl rfl dX8_isOut_12
  · refine g_ic cx dX8_isOut_7 k_ic1 ?_
    refine g_goto (tgt := 12) cx dX8_isOut_8 rfl ?_
    exact g_zret (ovf := fun (r : Int32) => (some (.int r))) (wf := fun (r : Int32) => (w_X8_isOut o cB cI cJ cZ s_o)) cx hA hr rfl hf rfl rfl dX8_isOut_12
theorem dX8_isStop_0 : decode cX8_isStop 0 = .ok (.aload_n 0, 1) := by decide +kernel
theorem dX8_isStop_1 : decode cX8_isStop 1 = .ok (.getfield 25, 3) := by decide +kernel
theorem dX8_isStop_4 : decode cX8_isStop 4 = .ok (.iconst 3, 1) := by decide +kernel
theorem dX8_isStop_5 : decode cX8_isStop 5 = .ok (.if_icmp .ne 7, 3) := by decide +kernel
theorem dX8_isStop_8 : decode cX8_isStop 8 = .ok (.iconst 1, 1) := by decide +kernel
theorem dX8_isStop_9 : decode cX8_isStop 9 = .ok (.goto 4, 3) := by decide +kernel
theorem dX8_isStop_12 : decode cX8_isStop 12 = .ok (.iconst 0, 1) := by decide +kernel
theorem dX8_isStop_13 : decode cX8_isStop 13 = .ok (.ireturn, 1) := by decide +kernel


def F_X8_isStop (s_o : S8) : Option (Int32) := (if (s8_sort s_o) = 3 then some (1) else some (0))
def w_X8_isStop (o : Nat → Nat) (cB cI cJ cZ : ClassId) (s_o : S8) : va_W := List.flatten [(gX8 o cB cI cJ cZ s_o)]
abbrev rm_X8_isStop : Room := { frames := 0, cells := 0, slots := 0, locals := 0 }
set_option maxHeartbeats 4000000 in
set_option maxRecDepth 100000 in
theorem c_X8_isStop (l : Launch) (D : gG) (cB cI cJ cZ : ClassId) (o : Nat → Nat) (s_o : S8) (r : Int32) (hf : F_X8_isStop s_o = some r) : gM l D (tyL cB cI cJ cZ) yX8_isStop cX8_isStop 1 (some .boolean) rm_X8_isStop [.ref (o 0)] (w_X8_isStop o cB cI cJ cZ s_o) (some (.int r)) (w_X8_isStop o cB cI cJ cZ s_o) := by
  refine met_of (by decide) (Nat.le_of_ble_eq_true rfl) ?_
  intro p e s m args below meth c A cx hr hA
  show gW p l e rm_X8_isStop s m args below meth c D A 1 _ 0 0 _ [(0, .ref (o 0))] 0 []
  rw [F_X8_isStop] at hf
  refine g_aln cx 0 dX8_isStop_0 rfl ?_
  refine fg_RX8_25 cx 0 rfl rfl dX8_isStop_1 ?_
  refine g_ic cx dX8_isStop_4 k_ic3 ?_
  refine g_ic_ne (tgt := 12) cx hf dX8_isStop_5 rfl (fun hf => ?_) (fun hf => ?_)
  · refine g_ic cx dX8_isStop_12 k_ic0 ?_
    exact g_zret (ovf := fun (r : Int32) => (some (.int r))) (wf := fun (r : Int32) => (w_X8_isStop o cB cI cJ cZ s_o)) cx hA hr rfl hf rfl rfl dX8_isStop_13
  · refine g_ic cx dX8_isStop_8 k_ic1 ?_
    refine g_goto (tgt := 13) cx dX8_isStop_9 rfl ?_
    exact g_zret (ovf := fun (r : Int32) => (some (.int r))) (wf := fun (r : Int32) => (w_X8_isStop o cB cI cJ cZ s_o)) cx hA hr rfl hf rfl rfl dX8_isStop_13
theorem dX8_number_0 : decode cX8_number 0 = .ok (.aload_n 0, 1) := by decide +kernel
theorem dX8_number_1 : decode cX8_number 1 = .ok (.getfield 25, 3) := by decide +kernel
theorem dX8_number_4 : decode cX8_number 4 = .ok (.iconst 2, 1) := by decide +kernel
theorem dX8_number_5 : decode cX8_number 5 = .ok (.if_icmp .eq 5, 3) := by decide +kernel
theorem dX8_number_8 : decode cX8_number 8 = .ok (.iconst (-1), 1) := by decide +kernel
theorem dX8_number_9 : decode cX8_number 9 = .ok (.ireturn, 1) := by decide +kernel
theorem dX8_number_10 : decode cX8_number 10 = .ok (.iconst 0, 1) := by decide +kernel
theorem dX8_number_11 : decode cX8_number 11 = .ok (.istore_n 1, 1) := by decide +kernel
theorem dX8_number_12 : decode cX8_number 12 = .ok (.aload_n 0, 1) := by decide +kernel
theorem dX8_number_13 : decode cX8_number 13 = .ok (.getfield 19, 3) := by decide +kernel
theorem dX8_number_16 : decode cX8_number 16 = .ok (.istore_n 2, 1) := by decide +kernel
theorem dX8_number_17 : decode cX8_number 17 = .ok (.iload_n 2, 1) := by decide +kernel
theorem dX8_number_18 : decode cX8_number 18 = .ok (.aload_n 0, 1) := by decide +kernel
theorem dX8_number_19 : decode cX8_number 19 = .ok (.getfield 22, 3) := by decide +kernel
theorem dX8_number_22 : decode cX8_number 22 = .ok (.if_icmp .ge 23, 3) := by decide +kernel
theorem dX8_number_25 : decode cX8_number 25 = .ok (.bipush 10, 2) := by decide +kernel
theorem dX8_number_27 : decode cX8_number 27 = .ok (.iload_n 1, 1) := by decide +kernel
theorem dX8_number_28 : decode cX8_number 28 = .ok (.imul, 1) := by decide +kernel
theorem dX8_number_29 : decode cX8_number 29 = .ok (.aload_n 0, 1) := by decide +kernel
theorem dX8_number_30 : decode cX8_number 30 = .ok (.iload_n 2, 1) := by decide +kernel
theorem dX8_number_31 : decode cX8_number 31 = .ok (.invokevirtual 32, 3) := by decide +kernel
theorem dX8_number_34 : decode cX8_number 34 = .ok (.iadd, 1) := by decide +kernel
theorem dX8_number_35 : decode cX8_number 35 = .ok (.bipush 48, 2) := by decide +kernel
theorem dX8_number_37 : decode cX8_number 37 = .ok (.isub, 1) := by decide +kernel
theorem dX8_number_38 : decode cX8_number 38 = .ok (.istore_n 1, 1) := by decide +kernel
theorem dX8_number_39 : decode cX8_number 39 = .ok (.iinc 2 1, 3) := by decide +kernel
theorem dX8_number_42 : decode cX8_number 42 = .ok (.goto (-25), 3) := by decide +kernel
theorem dX8_number_45 : decode cX8_number 45 = .ok (.iload_n 1, 1) := by decide +kernel
theorem dX8_number_46 : decode cX8_number 46 = .ok (.ireturn, 1) := by decide +kernel
theorem k_bp10 : (Int8.ofInt (10)).toInt32 = 10 := by decide


def F_X8_number_b17 (s_o : S8) : Nat → Int32 → Int32 → Option (Int32)
  | 0, _, _ => none
  | n + 1, v1, v2 => (if (s8_end s_o) ≤ v2 then some (v1) else (F_X8_byteAt s_o v2).bind fun q_1 => nm (((10 * v1) + q_1) - 48) fun v1_2 => nm (v2 + 1) fun v2_3 => (F_X8_number_b17 s_o n) v1_2 v2_3)
def F_X8_number (s_o : S8) : Option (Int32) := (if (s8_sort s_o) = 2 then nm 0 fun v1_4 => nm (s8_start s_o) fun v2_5 => F_X8_number_b17 s_o fu v1_4 v2_5 else some ((-1)))
def w_X8_number (o : Nat → Nat) (cB cI cJ cZ : ClassId) (s_o : S8) : va_W := List.flatten [(gX8 o cB cI cJ cZ s_o)]
abbrev rm_X8_number : Room := { frames := 1, cells := 0, slots := 0, locals := 21 }
set_option maxHeartbeats 4000000 in
set_option maxRecDepth 100000 in
theorem c_X8_number (l : Launch) (D : gG) (cB cI cJ cZ : ClassId) (o : Nat → Nat) (s_o : S8) (r : Int32) (hf : F_X8_number s_o = some r) : gM l D (tyL cB cI cJ cZ) yX8_number cX8_number 3 (some .int) rm_X8_number [.ref (o 0)] (w_X8_number o cB cI cJ cZ s_o) (some (.int r)) (w_X8_number o cB cI cJ cZ s_o) := by
  refine met_of (by decide) (Nat.le_of_ble_eq_true rfl) ?_
  intro p e s m args below meth c A cx hr hA
  show gW p l e rm_X8_number s m args below meth c D A 3 _ 0 0 _ [(0, .ref (o 0))] 0 []
  have h17 : ∀ (n : Nat) (v1 : Int32) (v2 : Int32), F_X8_number_b17 s_o n v1 v2 = some r → gW p l e rm_X8_number s m args below meth c D A 3 (MQ below (QM D (tyL cB cI cJ cZ) (some (.int r)) (w_X8_number o cB cI cJ cZ s_o) (w_X8_number o cB cI cJ cZ s_o) s.heap.size) args s 0 0 A) 0 0 (w_X8_number o cB cI cJ cZ s_o) [(0, .ref (o 0)), (1, .int v1), (2, .int v2)] 17 [] := by
    intro n
    induction n with
    | zero => intro v1 v2 hf; rw [F_X8_number_b17] at hf; cases hf
    | succ n ih =>
      intro v1 v2 hf
      rw [F_X8_number_b17] at hf
      refine g_iln cx 2 dX8_number_17 rfl ?_
      refine g_aln cx 0 dX8_number_18 rfl ?_
      refine fg_RX8_22 cx 0 rfl rfl dX8_number_19 ?_
      refine g_ic_ge (tgt := 45) cx hf dX8_number_22 rfl (fun hf => ?_) (fun hf => ?_)
      · refine g_iln cx 1 dX8_number_45 rfl ?_
        exact g_iret (ovf := fun (r : Int32) => (some (.int r))) (wf := fun (r : Int32) => (w_X8_number o cB cI cJ cZ s_o)) cx hA hr hf rfl rfl dX8_number_46
      · refine g_bp cx dX8_number_25 k_bp10 ?_
        refine g_iln cx 1 dX8_number_27 rfl ?_
        refine g_imul cx dX8_number_28 ?_
        refine g_aln cx 0 dX8_number_29 rfl ?_
        refine g_iln cx 2 dX8_number_30 rfl ?_
        refine ob hf (fun q_1 hq_1 hf => ?_)
        refine g_callVGiR cx lk_RX8_32 (c_X8_byteAt l D cB cI cJ cZ o s_o v2 q_1 hq_1) rfl [0] rfl rfl (ci := 6) (q1 := 0) rfl rfl rfl (Nat.le_of_ble_eq_true rfl) ⟨rfl, rfl, Nat.le_of_ble_eq_true rfl, Nat.le_of_ble_eq_true rfl⟩ dX8_number_31 ?_
        refine g_iadd cx dX8_number_34 ?_
        refine g_bp cx dX8_number_35 k_bp48 ?_
        refine g_isub cx dX8_number_37 ?_
        refine g_isn cx (L2 := fun v1_2 => [(1, .int v1_2), (0, .ref (o 0)), (2, .int v2)]) hf dX8_number_38 (Nat.le_of_ble_eq_true rfl) (fun _ => rfl) (fun v1_2 hf => ?_)
        refine g_inc cx (L2 := fun v2_3 => [(2, .int v2_3), (1, .int v1_2), (0, .ref (o 0))]) 2 hf dX8_number_39 rfl (k_inc1 _) (Nat.le_of_ble_eq_true rfl) (fun _ => rfl) (fun v2_3 hf => ?_)
        refine g_goto (tgt := 17) cx dX8_number_42 rfl ?_
        refine g_sub [2, 1, 0] rfl ?_
        exact ih _ _ hf
  rw [F_X8_number] at hf
  refine g_aln cx 0 dX8_number_0 rfl ?_
  refine fg_RX8_25 cx 0 rfl rfl dX8_number_1 ?_
  refine g_ic cx dX8_number_4 k_ic2 ?_
  refine g_ic_eq (tgt := 10) cx hf dX8_number_5 rfl (fun hf => ?_) (fun hf => ?_)
  · refine g_ic cx dX8_number_10 k_ic0 ?_
    refine g_isn cx (L2 := fun v1_4 => [(1, .int v1_4), (0, .ref (o 0))]) hf dX8_number_11 (Nat.le_of_ble_eq_true rfl) (fun _ => rfl) (fun v1_4 hf => ?_)
    refine g_aln cx 1 dX8_number_12 rfl ?_
    refine fg_RX8_19 cx 0 rfl rfl dX8_number_13 ?_
    refine g_isn cx (L2 := fun v2_5 => [(2, .int v2_5), (1, .int v1_4), (0, .ref (o 0))]) hf dX8_number_16 (Nat.le_of_ble_eq_true rfl) (fun _ => rfl) (fun v2_5 hf => ?_)
    refine g_sub [2, 1, 0] rfl ?_
    exact h17 fu _ _ hf
  · refine g_ic cx dX8_number_8 k_icm1 ?_
    exact g_iret (ovf := fun (r : Int32) => (some (.int r))) (wf := fun (r : Int32) => (w_X8_number o cB cI cJ cZ s_o)) cx hA hr hf rfl rfl dX8_number_9
theorem dX8_letters_0 : decode cX8_letters 0 = .ok (.aload_n 0, 1) := by decide +kernel
theorem dX8_letters_1 : decode cX8_letters 1 = .ok (.getfield 25, 3) := by decide +kernel
theorem dX8_letters_4 : decode cX8_letters 4 = .ok (.iconst 1, 1) := by decide +kernel
theorem dX8_letters_5 : decode cX8_letters 5 = .ok (.if_icmp .ne 15, 3) := by decide +kernel
theorem dX8_letters_8 : decode cX8_letters 8 = .ok (.aload_n 0, 1) := by decide +kernel
theorem dX8_letters_9 : decode cX8_letters 9 = .ok (.getfield 22, 3) := by decide +kernel
theorem dX8_letters_12 : decode cX8_letters 12 = .ok (.aload_n 0, 1) := by decide +kernel
theorem dX8_letters_13 : decode cX8_letters 13 = .ok (.getfield 19, 3) := by decide +kernel
theorem dX8_letters_16 : decode cX8_letters 16 = .ok (.isub, 1) := by decide +kernel
theorem dX8_letters_17 : decode cX8_letters 17 = .ok (.goto 4, 3) := by decide +kernel
theorem dX8_letters_20 : decode cX8_letters 20 = .ok (.iconst 0, 1) := by decide +kernel
theorem dX8_letters_21 : decode cX8_letters 21 = .ok (.ireturn, 1) := by decide +kernel


def F_X8_letters (s_o : S8) : Option (Int32) := (if (s8_sort s_o) = 1 then some (((s8_end s_o) - (s8_start s_o))) else some (0))
def w_X8_letters (o : Nat → Nat) (cB cI cJ cZ : ClassId) (s_o : S8) : va_W := List.flatten [(gX8 o cB cI cJ cZ s_o)]
abbrev rm_X8_letters : Room := { frames := 0, cells := 0, slots := 0, locals := 0 }
set_option maxHeartbeats 4000000 in
set_option maxRecDepth 100000 in
theorem c_X8_letters (l : Launch) (D : gG) (cB cI cJ cZ : ClassId) (o : Nat → Nat) (s_o : S8) (r : Int32) (hf : F_X8_letters s_o = some r) : gM l D (tyL cB cI cJ cZ) yX8_letters cX8_letters 1 (some .int) rm_X8_letters [.ref (o 0)] (w_X8_letters o cB cI cJ cZ s_o) (some (.int r)) (w_X8_letters o cB cI cJ cZ s_o) := by
  refine met_of (by decide) (Nat.le_of_ble_eq_true rfl) ?_
  intro p e s m args below meth c A cx hr hA
  show gW p l e rm_X8_letters s m args below meth c D A 1 _ 0 0 _ [(0, .ref (o 0))] 0 []
  rw [F_X8_letters] at hf
  refine g_aln cx 0 dX8_letters_0 rfl ?_
  refine fg_RX8_25 cx 0 rfl rfl dX8_letters_1 ?_
  refine g_ic cx dX8_letters_4 k_ic1 ?_
  refine g_ic_ne (tgt := 20) cx hf dX8_letters_5 rfl (fun hf => ?_) (fun hf => ?_)
  · refine g_ic cx dX8_letters_20 k_ic0 ?_
    exact g_iret (ovf := fun (r : Int32) => (some (.int r))) (wf := fun (r : Int32) => (w_X8_letters o cB cI cJ cZ s_o)) cx hA hr hf rfl rfl dX8_letters_21
  · refine g_aln cx 0 dX8_letters_8 rfl ?_
    refine fg_RX8_22 cx 0 rfl rfl dX8_letters_9 ?_
    refine g_aln cx 0 dX8_letters_12 rfl ?_
    refine fg_RX8_19 cx 0 rfl rfl dX8_letters_13 ?_
    refine g_isub cx dX8_letters_16 ?_
    refine g_goto (tgt := 21) cx dX8_letters_17 rfl ?_
    exact g_iret (ovf := fun (r : Int32) => (some (.int r))) (wf := fun (r : Int32) => (w_X8_letters o cB cI cJ cZ s_o)) cx hA hr hf rfl rfl dX8_letters_21
theorem dX8_letterAt_0 : decode cX8_letterAt 0 = .ok (.aload_n 0, 1) := by decide +kernel
theorem dX8_letterAt_1 : decode cX8_letterAt 1 = .ok (.aload_n 0, 1) := by decide +kernel
theorem dX8_letterAt_2 : decode cX8_letterAt 2 = .ok (.getfield 19, 3) := by decide +kernel
theorem dX8_letterAt_5 : decode cX8_letterAt 5 = .ok (.iload_n 1, 1) := by decide +kernel
theorem dX8_letterAt_6 : decode cX8_letterAt 6 = .ok (.iadd, 1) := by decide +kernel
theorem dX8_letterAt_7 : decode cX8_letterAt 7 = .ok (.invokevirtual 32, 3) := by decide +kernel
theorem dX8_letterAt_10 : decode cX8_letterAt 10 = .ok (.bipush 97, 2) := by decide +kernel
theorem dX8_letterAt_12 : decode cX8_letterAt 12 = .ok (.isub, 1) := by decide +kernel
theorem dX8_letterAt_13 : decode cX8_letterAt 13 = .ok (.ireturn, 1) := by decide +kernel


def F_X8_letterAt (s_o : S8) (x1 : Int32) : Option (Int32) := (F_X8_byteAt s_o ((s8_start s_o) + x1)).bind fun q_1 => some ((q_1 - 97))
def w_X8_letterAt (o : Nat → Nat) (cB cI cJ cZ : ClassId) (s_o : S8) : va_W := List.flatten [(gX8 o cB cI cJ cZ s_o)]
abbrev rm_X8_letterAt : Room := { frames := 1, cells := 0, slots := 0, locals := 21 }
set_option maxHeartbeats 4000000 in
set_option maxRecDepth 100000 in
theorem c_X8_letterAt (l : Launch) (D : gG) (cB cI cJ cZ : ClassId) (o : Nat → Nat) (s_o : S8) (x1 : Int32) (r : Int32) (hf : F_X8_letterAt s_o x1 = some r) : gM l D (tyL cB cI cJ cZ) yX8_letterAt cX8_letterAt 2 (some .int) rm_X8_letterAt [.ref (o 0), .int x1] (w_X8_letterAt o cB cI cJ cZ s_o) (some (.int r)) (w_X8_letterAt o cB cI cJ cZ s_o) := by
  refine met_of (by decide) (Nat.le_of_ble_eq_true rfl) ?_
  intro p e s m args below meth c A cx hr hA
  show gW p l e rm_X8_letterAt s m args below meth c D A 2 _ 0 0 _ [(0, .ref (o 0)), (1, .int x1)] 0 []
  rw [F_X8_letterAt] at hf
  refine g_aln cx 0 dX8_letterAt_0 rfl ?_
  refine g_aln cx 0 dX8_letterAt_1 rfl ?_
  refine fg_RX8_19 cx 0 rfl rfl dX8_letterAt_2 ?_
  refine g_iln cx 1 dX8_letterAt_5 rfl ?_
  refine g_iadd cx dX8_letterAt_6 ?_
  refine ob hf (fun q_1 hq_1 hf => ?_)
  refine g_callVGiR cx lk_RX8_32 (c_X8_byteAt l D cB cI cJ cZ o s_o ((s8_start s_o) + x1) q_1 hq_1) rfl [0] rfl rfl (ci := 6) (q1 := 0) rfl rfl rfl (Nat.le_of_ble_eq_true rfl) ⟨rfl, rfl, Nat.le_of_ble_eq_true rfl, Nat.le_of_ble_eq_true rfl⟩ dX8_letterAt_7 ?_
  refine g_bp cx dX8_letterAt_10 k_bp97 ?_
  refine g_isub cx dX8_letterAt_12 ?_
  exact g_iret (ovf := fun (r : Int32) => (some (.int r))) (wf := fun (r : Int32) => (w_X8_letterAt o cB cI cJ cZ s_o)) cx hA hr hf rfl rfl dX8_letterAt_13
theorem dX8_isNamed_0 : decode cX8_isNamed 0 = .ok (.aload_n 0, 1) := by decide +kernel
theorem dX8_isNamed_1 : decode cX8_isNamed 1 = .ok (.getfield 25, 3) := by decide +kernel
theorem dX8_isNamed_4 : decode cX8_isNamed 4 = .ok (.iconst 1, 1) := by decide +kernel
theorem dX8_isNamed_5 : decode cX8_isNamed 5 = .ok (.if_icmp .ne 19, 3) := by decide +kernel
theorem dX8_isNamed_8 : decode cX8_isNamed 8 = .ok (.aload_n 0, 1) := by decide +kernel
theorem dX8_isNamed_9 : decode cX8_isNamed 9 = .ok (.getfield 22, 3) := by decide +kernel
theorem dX8_isNamed_12 : decode cX8_isNamed 12 = .ok (.aload_n 0, 1) := by decide +kernel
theorem dX8_isNamed_13 : decode cX8_isNamed 13 = .ok (.getfield 19, 3) := by decide +kernel
theorem dX8_isNamed_16 : decode cX8_isNamed 16 = .ok (.isub, 1) := by decide +kernel
theorem dX8_isNamed_17 : decode cX8_isNamed 17 = .ok (.aload_n 1, 1) := by decide +kernel
theorem dX8_isNamed_18 : decode cX8_isNamed 18 = .ok (.invokevirtual 36, 3) := by decide +kernel
theorem dX8_isNamed_21 : decode cX8_isNamed 21 = .ok (.if_icmp .eq 5, 3) := by decide +kernel
theorem dX8_isNamed_24 : decode cX8_isNamed 24 = .ok (.iconst 0, 1) := by decide +kernel
theorem dX8_isNamed_25 : decode cX8_isNamed 25 = .ok (.ireturn, 1) := by decide +kernel
theorem dX8_isNamed_26 : decode cX8_isNamed 26 = .ok (.iconst 0, 1) := by decide +kernel
theorem dX8_isNamed_27 : decode cX8_isNamed 27 = .ok (.istore_n 2, 1) := by decide +kernel
theorem dX8_isNamed_28 : decode cX8_isNamed 28 = .ok (.iload_n 2, 1) := by decide +kernel
theorem dX8_isNamed_29 : decode cX8_isNamed 29 = .ok (.aload_n 1, 1) := by decide +kernel
theorem dX8_isNamed_30 : decode cX8_isNamed 30 = .ok (.invokevirtual 36, 3) := by decide +kernel
theorem dX8_isNamed_33 : decode cX8_isNamed 33 = .ok (.if_icmp .ge 29, 3) := by decide +kernel
theorem dX8_isNamed_36 : decode cX8_isNamed 36 = .ok (.aload_n 0, 1) := by decide +kernel
theorem dX8_isNamed_37 : decode cX8_isNamed 37 = .ok (.aload_n 0, 1) := by decide +kernel
theorem dX8_isNamed_38 : decode cX8_isNamed 38 = .ok (.getfield 19, 3) := by decide +kernel
theorem dX8_isNamed_41 : decode cX8_isNamed 41 = .ok (.iload_n 2, 1) := by decide +kernel
theorem dX8_isNamed_42 : decode cX8_isNamed 42 = .ok (.iadd, 1) := by decide +kernel
theorem dX8_isNamed_43 : decode cX8_isNamed 43 = .ok (.invokevirtual 32, 3) := by decide +kernel
theorem dX8_isNamed_46 : decode cX8_isNamed 46 = .ok (.aload_n 1, 1) := by decide +kernel
theorem dX8_isNamed_47 : decode cX8_isNamed 47 = .ok (.iload_n 2, 1) := by decide +kernel
theorem dX8_isNamed_48 : decode cX8_isNamed 48 = .ok (.invokevirtual 41, 3) := by decide +kernel
theorem dX8_isNamed_51 : decode cX8_isNamed 51 = .ok (.if_icmp .eq 5, 3) := by decide +kernel
theorem dX8_isNamed_54 : decode cX8_isNamed 54 = .ok (.iconst 0, 1) := by decide +kernel
theorem dX8_isNamed_55 : decode cX8_isNamed 55 = .ok (.ireturn, 1) := by decide +kernel
theorem dX8_isNamed_56 : decode cX8_isNamed 56 = .ok (.iinc 2 1, 3) := by decide +kernel
theorem dX8_isNamed_59 : decode cX8_isNamed 59 = .ok (.goto (-31), 3) := by decide +kernel
theorem dX8_isNamed_62 : decode cX8_isNamed 62 = .ok (.iconst 1, 1) := by decide +kernel
theorem dX8_isNamed_63 : decode cX8_isNamed 63 = .ok (.ireturn, 1) := by decide +kernel
theorem q2_103 : Cond.methodLink RX8 36 yJ0_length_8abf5 ∈ TT := tq2 103 rfl rfl
theorem q2_104 : Cond.instanceMethod yJ0_length_8abf5 ∈ TT := tq2 104 rfl rfl
theorem q2_105 : Cond.selects RJ0 yJ0_length_8abf5 yJ0_length_8abf5 ∈ TT := tq2 105 rfl rfl
theorem q2_106 : Cond.code yJ0_length_8abf5 cJ0_length_8abf5 1 (some .int) ∈ TT := tq2 106 rfl rfl
theorem q2_113 : Cond.methodLink RX8 41 yJ0_charAt_5068e ∈ TT := tq2 113 rfl rfl
theorem q2_114 : Cond.instanceMethod yJ0_charAt_5068e ∈ TT := tq2 114 rfl rfl
theorem q2_115 : Cond.selects RJ0 yJ0_charAt_5068e yJ0_charAt_5068e ∈ TT := tq2 115 rfl rfl
theorem q2_116 : Cond.code yJ0_charAt_5068e cJ0_charAt_5068e 2 (some .char) ∈ TT := tq2 116 rfl rfl
theorem lk_RX8_36 : vlk RX8 36 yJ0_length_8abf5 cJ0_length_8abf5 1 (some .int) 0 := ⟨List.forall_mem_cons.mpr ⟨q2_103, List.forall_mem_cons.mpr ⟨q2_104, List.forall_mem_cons.mpr ⟨q2_105, List.forall_mem_cons.mpr ⟨q1_15, fun _ h => absurd h List.not_mem_nil⟩⟩⟩⟩, q2_106, by decide, by decide, by decide +kernel⟩
theorem lk_RX8_41 : vlk RX8 41 yJ0_charAt_5068e cJ0_charAt_5068e 2 (some .char) 1 := ⟨List.forall_mem_cons.mpr ⟨q2_113, List.forall_mem_cons.mpr ⟨q2_114, List.forall_mem_cons.mpr ⟨q2_115, List.forall_mem_cons.mpr ⟨q1_15, fun _ h => absurd h List.not_mem_nil⟩⟩⟩⟩, q2_116, by decide, by decide, by decide +kernel⟩
def F_X8_isNamed_word_b28 (s_o : S8) : Nat → Int32 → Option (Int32)
  | 0, _ => none
  | n + 1, v2 => (if (nI 4) ≤ v2 then some (1) else (F_X8_byteAt s_o ((s8_start s_o) + v2)).bind fun q_1 => (aget 4 (fun j => ([119, 111, 114, 100] : List Int32).getD j 0) v2).bind fun c_2 => (if q_1 = c_2 then nm (v2 + 1) fun v2_3 => (F_X8_isNamed_word_b28 s_o n) v2_3 else some (0)))
def F_X8_isNamed_word (s_o : S8) : Option (Int32) := (if (s8_sort s_o) = 1 then (if ((s8_end s_o) - (s8_start s_o)) = (nI 4) then nm 0 fun v2_4 => F_X8_isNamed_word_b28 s_o fu v2_4 else some (0)) else some (0))
def w_X8_isNamed_word (o : Nat → Nat) (cB cI cJ cZ : ClassId) (s_o : S8) : va_W := List.flatten [(gX8 o cB cI cJ cZ s_o)]
abbrev rm_X8_isNamed_word : Room := { frames := 4, cells := 0, slots := 0, locals := 85 }
set_option maxHeartbeats 4000000 in
set_option maxRecDepth 100000 in
theorem c_X8_isNamed_word (l : Launch) (D : gG) (cB cI cJ cZ : ClassId) (o : Nat → Nat) (s_o : S8) (r : Int32) (hf : F_X8_isNamed_word s_o = some r) : gM l D (tyL cB cI cJ cZ) yX8_isNamed cX8_isNamed 3 (some .boolean) rm_X8_isNamed_word [.ref (o 0), .ref (D.2.1 0)] (w_X8_isNamed_word o cB cI cJ cZ s_o) (some (.int r)) (w_X8_isNamed_word o cB cI cJ cZ s_o) := by
  refine met_of (by decide) (Nat.le_of_ble_eq_true rfl) ?_
  intro p e s m args below meth c A cx hr hA
  show gW p l e rm_X8_isNamed_word s m args below meth c D A 3 _ 0 0 _ [(0, .ref (o 0)), (1, .ref (D.2.1 0))] 0 []
  have h28 : ∀ (n : Nat) (v2 : Int32), F_X8_isNamed_word_b28 s_o n v2 = some r → gW p l e rm_X8_isNamed_word s m args below meth c D A 3 (MQ below (QM D (tyL cB cI cJ cZ) (some (.int r)) (w_X8_isNamed_word o cB cI cJ cZ s_o) (w_X8_isNamed_word o cB cI cJ cZ s_o) s.heap.size) args s 0 0 A) 0 0 (w_X8_isNamed_word o cB cI cJ cZ s_o) [(0, .ref (o 0)), (1, .ref (D.2.1 0)), (2, .int v2)] 28 [] := by
    intro n
    induction n with
    | zero => intro v2 hf; rw [F_X8_isNamed_word_b28] at hf; cases hf
    | succ n ih =>
      intro v2 hf
      rw [F_X8_isNamed_word_b28] at hf
      refine g_iln cx 2 dX8_isNamed_28 rfl ?_
      refine g_aln cx 1 dX8_isNamed_29 rfl ?_
      refine g_callK (x := nI 4) cx lk_RX8_36 rfl (i := 0) (by decide) (c_slength l D cB cI cJ cZ 0 (by decide)) rfl rfl (Nat.le_of_ble_eq_true rfl) ⟨rfl, rfl, Nat.le_of_ble_eq_true rfl, Nat.le_of_ble_eq_true rfl⟩ dX8_isNamed_30 ?_
      refine g_ic_ge (tgt := 62) cx hf dX8_isNamed_33 rfl (fun hf => ?_) (fun hf => ?_)
      · refine g_ic cx dX8_isNamed_62 k_ic1 ?_
        exact g_zret (ovf := fun (r : Int32) => (some (.int r))) (wf := fun (r : Int32) => (w_X8_isNamed_word o cB cI cJ cZ s_o)) cx hA hr rfl hf rfl rfl dX8_isNamed_63
      · refine g_aln cx 0 dX8_isNamed_36 rfl ?_
        refine g_aln cx 0 dX8_isNamed_37 rfl ?_
        refine fg_RX8_19 cx 0 rfl rfl dX8_isNamed_38 ?_
        refine g_iln cx 2 dX8_isNamed_41 rfl ?_
        refine g_iadd cx dX8_isNamed_42 ?_
        refine ob hf (fun q_1 hq_1 hf => ?_)
        refine g_callVGiR cx lk_RX8_32 (c_X8_byteAt l D cB cI cJ cZ o s_o ((s8_start s_o) + v2) q_1 hq_1) rfl [0] rfl rfl (ci := 6) (q1 := 0) rfl rfl rfl (Nat.le_of_ble_eq_true rfl) ⟨rfl, rfl, Nat.le_of_ble_eq_true rfl, Nat.le_of_ble_eq_true rfl⟩ dX8_isNamed_43 ?_
        refine g_aln cx 1 dX8_isNamed_46 rfl ?_
        refine g_iln cx 2 dX8_isNamed_47 rfl ?_
        refine ob hf (fun c_2 hc_2 hf => ?_)
        refine g_callK (x := c_2) cx lk_RX8_41 rfl (i := 0) (by decide) (c_scharAt l D cB cI cJ cZ 0 (by decide) _ c_2 hc_2) rfl rfl (Nat.le_of_ble_eq_true rfl) ⟨rfl, rfl, Nat.le_of_ble_eq_true rfl, Nat.le_of_ble_eq_true rfl⟩ dX8_isNamed_48 ?_
        refine g_ic_eq (tgt := 56) cx hf dX8_isNamed_51 rfl (fun hf => ?_) (fun hf => ?_)
        · refine g_inc cx (L2 := fun v2_3 => [(2, .int v2_3), (0, .ref (o 0)), (1, .ref (D.2.1 0))]) 2 hf dX8_isNamed_56 rfl (k_inc1 _) (Nat.le_of_ble_eq_true rfl) (fun _ => rfl) (fun v2_3 hf => ?_)
          refine g_goto (tgt := 28) cx dX8_isNamed_59 rfl ?_
          refine g_sub [1, 2, 0] rfl ?_
          exact ih _ hf
        · refine g_ic cx dX8_isNamed_54 k_ic0 ?_
          exact g_zret (ovf := fun (r : Int32) => (some (.int r))) (wf := fun (r : Int32) => (w_X8_isNamed_word o cB cI cJ cZ s_o)) cx hA hr rfl hf rfl rfl dX8_isNamed_55
  rw [F_X8_isNamed_word] at hf
  refine g_aln cx 0 dX8_isNamed_0 rfl ?_
  refine fg_RX8_25 cx 0 rfl rfl dX8_isNamed_1 ?_
  refine g_ic cx dX8_isNamed_4 k_ic1 ?_
  refine g_ic_ne (tgt := 24) cx hf dX8_isNamed_5 rfl (fun hf => ?_) (fun hf => ?_)
  · refine g_ic cx dX8_isNamed_24 k_ic0 ?_
    exact g_zret (ovf := fun (r : Int32) => (some (.int r))) (wf := fun (r : Int32) => (w_X8_isNamed_word o cB cI cJ cZ s_o)) cx hA hr rfl hf rfl rfl dX8_isNamed_25
  · refine g_aln cx 0 dX8_isNamed_8 rfl ?_
    refine fg_RX8_22 cx 0 rfl rfl dX8_isNamed_9 ?_
    refine g_aln cx 0 dX8_isNamed_12 rfl ?_
    refine fg_RX8_19 cx 0 rfl rfl dX8_isNamed_13 ?_
    refine g_isub cx dX8_isNamed_16 ?_
    refine g_aln cx 1 dX8_isNamed_17 rfl ?_
    refine g_callK (x := nI 4) cx lk_RX8_36 rfl (i := 0) (by decide) (c_slength l D cB cI cJ cZ 0 (by decide)) rfl rfl (Nat.le_of_ble_eq_true rfl) ⟨rfl, rfl, Nat.le_of_ble_eq_true rfl, Nat.le_of_ble_eq_true rfl⟩ dX8_isNamed_18 ?_
    refine g_ic_eq (tgt := 26) cx hf dX8_isNamed_21 rfl (fun hf => ?_) (fun hf => ?_)
    · refine g_ic cx dX8_isNamed_26 k_ic0 ?_
      refine g_isn cx (L2 := fun v2_4 => [(2, .int v2_4), (0, .ref (o 0)), (1, .ref (D.2.1 0))]) hf dX8_isNamed_27 (Nat.le_of_ble_eq_true rfl) (fun _ => rfl) (fun v2_4 hf => ?_)
      refine g_sub [1, 2, 0] rfl ?_
      exact h28 fu _ hf
    · refine g_ic cx dX8_isNamed_24 k_ic0 ?_
      exact g_zret (ovf := fun (r : Int32) => (some (.int r))) (wf := fun (r : Int32) => (w_X8_isNamed_word o cB cI cJ cZ s_o)) cx hA hr rfl hf rfl rfl dX8_isNamed_25


def F_X8_isNamed_form_b28 (s_o : S8) : Nat → Int32 → Option (Int32)
  | 0, _ => none
  | n + 1, v2 => (if (nI 4) ≤ v2 then some (1) else (F_X8_byteAt s_o ((s8_start s_o) + v2)).bind fun q_1 => (aget 4 (fun j => ([102, 111, 114, 109] : List Int32).getD j 0) v2).bind fun c_2 => (if q_1 = c_2 then nm (v2 + 1) fun v2_3 => (F_X8_isNamed_form_b28 s_o n) v2_3 else some (0)))
def F_X8_isNamed_form (s_o : S8) : Option (Int32) := (if (s8_sort s_o) = 1 then (if ((s8_end s_o) - (s8_start s_o)) = (nI 4) then nm 0 fun v2_4 => F_X8_isNamed_form_b28 s_o fu v2_4 else some (0)) else some (0))
def w_X8_isNamed_form (o : Nat → Nat) (cB cI cJ cZ : ClassId) (s_o : S8) : va_W := List.flatten [(gX8 o cB cI cJ cZ s_o)]
abbrev rm_X8_isNamed_form : Room := { frames := 4, cells := 0, slots := 0, locals := 85 }
set_option maxHeartbeats 4000000 in
set_option maxRecDepth 100000 in
theorem c_X8_isNamed_form (l : Launch) (D : gG) (cB cI cJ cZ : ClassId) (o : Nat → Nat) (s_o : S8) (r : Int32) (hf : F_X8_isNamed_form s_o = some r) : gM l D (tyL cB cI cJ cZ) yX8_isNamed cX8_isNamed 3 (some .boolean) rm_X8_isNamed_form [.ref (o 0), .ref (D.2.1 1)] (w_X8_isNamed_form o cB cI cJ cZ s_o) (some (.int r)) (w_X8_isNamed_form o cB cI cJ cZ s_o) := by
  refine met_of (by decide) (Nat.le_of_ble_eq_true rfl) ?_
  intro p e s m args below meth c A cx hr hA
  show gW p l e rm_X8_isNamed_form s m args below meth c D A 3 _ 0 0 _ [(0, .ref (o 0)), (1, .ref (D.2.1 1))] 0 []
  have h28 : ∀ (n : Nat) (v2 : Int32), F_X8_isNamed_form_b28 s_o n v2 = some r → gW p l e rm_X8_isNamed_form s m args below meth c D A 3 (MQ below (QM D (tyL cB cI cJ cZ) (some (.int r)) (w_X8_isNamed_form o cB cI cJ cZ s_o) (w_X8_isNamed_form o cB cI cJ cZ s_o) s.heap.size) args s 0 0 A) 0 0 (w_X8_isNamed_form o cB cI cJ cZ s_o) [(0, .ref (o 0)), (1, .ref (D.2.1 1)), (2, .int v2)] 28 [] := by
    intro n
    induction n with
    | zero => intro v2 hf; rw [F_X8_isNamed_form_b28] at hf; cases hf
    | succ n ih =>
      intro v2 hf
      rw [F_X8_isNamed_form_b28] at hf
      refine g_iln cx 2 dX8_isNamed_28 rfl ?_
      refine g_aln cx 1 dX8_isNamed_29 rfl ?_
      refine g_callK (x := nI 4) cx lk_RX8_36 rfl (i := 1) (by decide) (c_slength l D cB cI cJ cZ 1 (by decide)) rfl rfl (Nat.le_of_ble_eq_true rfl) ⟨rfl, rfl, Nat.le_of_ble_eq_true rfl, Nat.le_of_ble_eq_true rfl⟩ dX8_isNamed_30 ?_
      refine g_ic_ge (tgt := 62) cx hf dX8_isNamed_33 rfl (fun hf => ?_) (fun hf => ?_)
      · refine g_ic cx dX8_isNamed_62 k_ic1 ?_
        exact g_zret (ovf := fun (r : Int32) => (some (.int r))) (wf := fun (r : Int32) => (w_X8_isNamed_form o cB cI cJ cZ s_o)) cx hA hr rfl hf rfl rfl dX8_isNamed_63
      · refine g_aln cx 0 dX8_isNamed_36 rfl ?_
        refine g_aln cx 0 dX8_isNamed_37 rfl ?_
        refine fg_RX8_19 cx 0 rfl rfl dX8_isNamed_38 ?_
        refine g_iln cx 2 dX8_isNamed_41 rfl ?_
        refine g_iadd cx dX8_isNamed_42 ?_
        refine ob hf (fun q_1 hq_1 hf => ?_)
        refine g_callVGiR cx lk_RX8_32 (c_X8_byteAt l D cB cI cJ cZ o s_o ((s8_start s_o) + v2) q_1 hq_1) rfl [0] rfl rfl (ci := 6) (q1 := 0) rfl rfl rfl (Nat.le_of_ble_eq_true rfl) ⟨rfl, rfl, Nat.le_of_ble_eq_true rfl, Nat.le_of_ble_eq_true rfl⟩ dX8_isNamed_43 ?_
        refine g_aln cx 1 dX8_isNamed_46 rfl ?_
        refine g_iln cx 2 dX8_isNamed_47 rfl ?_
        refine ob hf (fun c_2 hc_2 hf => ?_)
        refine g_callK (x := c_2) cx lk_RX8_41 rfl (i := 1) (by decide) (c_scharAt l D cB cI cJ cZ 1 (by decide) _ c_2 hc_2) rfl rfl (Nat.le_of_ble_eq_true rfl) ⟨rfl, rfl, Nat.le_of_ble_eq_true rfl, Nat.le_of_ble_eq_true rfl⟩ dX8_isNamed_48 ?_
        refine g_ic_eq (tgt := 56) cx hf dX8_isNamed_51 rfl (fun hf => ?_) (fun hf => ?_)
        · refine g_inc cx (L2 := fun v2_3 => [(2, .int v2_3), (0, .ref (o 0)), (1, .ref (D.2.1 1))]) 2 hf dX8_isNamed_56 rfl (k_inc1 _) (Nat.le_of_ble_eq_true rfl) (fun _ => rfl) (fun v2_3 hf => ?_)
          refine g_goto (tgt := 28) cx dX8_isNamed_59 rfl ?_
          refine g_sub [1, 2, 0] rfl ?_
          exact ih _ hf
        · refine g_ic cx dX8_isNamed_54 k_ic0 ?_
          exact g_zret (ovf := fun (r : Int32) => (some (.int r))) (wf := fun (r : Int32) => (w_X8_isNamed_form o cB cI cJ cZ s_o)) cx hA hr rfl hf rfl rfl dX8_isNamed_55
  rw [F_X8_isNamed_form] at hf
  refine g_aln cx 0 dX8_isNamed_0 rfl ?_
  refine fg_RX8_25 cx 0 rfl rfl dX8_isNamed_1 ?_
  refine g_ic cx dX8_isNamed_4 k_ic1 ?_
  refine g_ic_ne (tgt := 24) cx hf dX8_isNamed_5 rfl (fun hf => ?_) (fun hf => ?_)
  · refine g_ic cx dX8_isNamed_24 k_ic0 ?_
    exact g_zret (ovf := fun (r : Int32) => (some (.int r))) (wf := fun (r : Int32) => (w_X8_isNamed_form o cB cI cJ cZ s_o)) cx hA hr rfl hf rfl rfl dX8_isNamed_25
  · refine g_aln cx 0 dX8_isNamed_8 rfl ?_
    refine fg_RX8_22 cx 0 rfl rfl dX8_isNamed_9 ?_
    refine g_aln cx 0 dX8_isNamed_12 rfl ?_
    refine fg_RX8_19 cx 0 rfl rfl dX8_isNamed_13 ?_
    refine g_isub cx dX8_isNamed_16 ?_
    refine g_aln cx 1 dX8_isNamed_17 rfl ?_
    refine g_callK (x := nI 4) cx lk_RX8_36 rfl (i := 1) (by decide) (c_slength l D cB cI cJ cZ 1 (by decide)) rfl rfl (Nat.le_of_ble_eq_true rfl) ⟨rfl, rfl, Nat.le_of_ble_eq_true rfl, Nat.le_of_ble_eq_true rfl⟩ dX8_isNamed_18 ?_
    refine g_ic_eq (tgt := 26) cx hf dX8_isNamed_21 rfl (fun hf => ?_) (fun hf => ?_)
    · refine g_ic cx dX8_isNamed_26 k_ic0 ?_
      refine g_isn cx (L2 := fun v2_4 => [(2, .int v2_4), (0, .ref (o 0)), (1, .ref (D.2.1 1))]) hf dX8_isNamed_27 (Nat.le_of_ble_eq_true rfl) (fun _ => rfl) (fun v2_4 hf => ?_)
      refine g_sub [1, 2, 0] rfl ?_
      exact h28 fu _ hf
    · refine g_ic cx dX8_isNamed_24 k_ic0 ?_
      exact g_zret (ovf := fun (r : Int32) => (some (.int r))) (wf := fun (r : Int32) => (w_X8_isNamed_form o cB cI cJ cZ s_o)) cx hA hr rfl hf rfl rfl dX8_isNamed_25


def F_X8_isNamed_metre_b28 (s_o : S8) : Nat → Int32 → Option (Int32)
  | 0, _ => none
  | n + 1, v2 => (if (nI 5) ≤ v2 then some (1) else (F_X8_byteAt s_o ((s8_start s_o) + v2)).bind fun q_1 => (aget 5 (fun j => ([109, 101, 116, 114, 101] : List Int32).getD j 0) v2).bind fun c_2 => (if q_1 = c_2 then nm (v2 + 1) fun v2_3 => (F_X8_isNamed_metre_b28 s_o n) v2_3 else some (0)))
def F_X8_isNamed_metre (s_o : S8) : Option (Int32) := (if (s8_sort s_o) = 1 then (if ((s8_end s_o) - (s8_start s_o)) = (nI 5) then nm 0 fun v2_4 => F_X8_isNamed_metre_b28 s_o fu v2_4 else some (0)) else some (0))
def w_X8_isNamed_metre (o : Nat → Nat) (cB cI cJ cZ : ClassId) (s_o : S8) : va_W := List.flatten [(gX8 o cB cI cJ cZ s_o)]
abbrev rm_X8_isNamed_metre : Room := { frames := 4, cells := 0, slots := 0, locals := 85 }
set_option maxHeartbeats 4000000 in
set_option maxRecDepth 100000 in
theorem c_X8_isNamed_metre (l : Launch) (D : gG) (cB cI cJ cZ : ClassId) (o : Nat → Nat) (s_o : S8) (r : Int32) (hf : F_X8_isNamed_metre s_o = some r) : gM l D (tyL cB cI cJ cZ) yX8_isNamed cX8_isNamed 3 (some .boolean) rm_X8_isNamed_metre [.ref (o 0), .ref (D.2.1 2)] (w_X8_isNamed_metre o cB cI cJ cZ s_o) (some (.int r)) (w_X8_isNamed_metre o cB cI cJ cZ s_o) := by
  refine met_of (by decide) (Nat.le_of_ble_eq_true rfl) ?_
  intro p e s m args below meth c A cx hr hA
  show gW p l e rm_X8_isNamed_metre s m args below meth c D A 3 _ 0 0 _ [(0, .ref (o 0)), (1, .ref (D.2.1 2))] 0 []
  have h28 : ∀ (n : Nat) (v2 : Int32), F_X8_isNamed_metre_b28 s_o n v2 = some r → gW p l e rm_X8_isNamed_metre s m args below meth c D A 3 (MQ below (QM D (tyL cB cI cJ cZ) (some (.int r)) (w_X8_isNamed_metre o cB cI cJ cZ s_o) (w_X8_isNamed_metre o cB cI cJ cZ s_o) s.heap.size) args s 0 0 A) 0 0 (w_X8_isNamed_metre o cB cI cJ cZ s_o) [(0, .ref (o 0)), (1, .ref (D.2.1 2)), (2, .int v2)] 28 [] := by
    intro n
    induction n with
    | zero => intro v2 hf; rw [F_X8_isNamed_metre_b28] at hf; cases hf
    | succ n ih =>
      intro v2 hf
      rw [F_X8_isNamed_metre_b28] at hf
      refine g_iln cx 2 dX8_isNamed_28 rfl ?_
      refine g_aln cx 1 dX8_isNamed_29 rfl ?_
      refine g_callK (x := nI 5) cx lk_RX8_36 rfl (i := 2) (by decide) (c_slength l D cB cI cJ cZ 2 (by decide)) rfl rfl (Nat.le_of_ble_eq_true rfl) ⟨rfl, rfl, Nat.le_of_ble_eq_true rfl, Nat.le_of_ble_eq_true rfl⟩ dX8_isNamed_30 ?_
      refine g_ic_ge (tgt := 62) cx hf dX8_isNamed_33 rfl (fun hf => ?_) (fun hf => ?_)
      · refine g_ic cx dX8_isNamed_62 k_ic1 ?_
        exact g_zret (ovf := fun (r : Int32) => (some (.int r))) (wf := fun (r : Int32) => (w_X8_isNamed_metre o cB cI cJ cZ s_o)) cx hA hr rfl hf rfl rfl dX8_isNamed_63
      · refine g_aln cx 0 dX8_isNamed_36 rfl ?_
        refine g_aln cx 0 dX8_isNamed_37 rfl ?_
        refine fg_RX8_19 cx 0 rfl rfl dX8_isNamed_38 ?_
        refine g_iln cx 2 dX8_isNamed_41 rfl ?_
        refine g_iadd cx dX8_isNamed_42 ?_
        refine ob hf (fun q_1 hq_1 hf => ?_)
        refine g_callVGiR cx lk_RX8_32 (c_X8_byteAt l D cB cI cJ cZ o s_o ((s8_start s_o) + v2) q_1 hq_1) rfl [0] rfl rfl (ci := 6) (q1 := 0) rfl rfl rfl (Nat.le_of_ble_eq_true rfl) ⟨rfl, rfl, Nat.le_of_ble_eq_true rfl, Nat.le_of_ble_eq_true rfl⟩ dX8_isNamed_43 ?_
        refine g_aln cx 1 dX8_isNamed_46 rfl ?_
        refine g_iln cx 2 dX8_isNamed_47 rfl ?_
        refine ob hf (fun c_2 hc_2 hf => ?_)
        refine g_callK (x := c_2) cx lk_RX8_41 rfl (i := 2) (by decide) (c_scharAt l D cB cI cJ cZ 2 (by decide) _ c_2 hc_2) rfl rfl (Nat.le_of_ble_eq_true rfl) ⟨rfl, rfl, Nat.le_of_ble_eq_true rfl, Nat.le_of_ble_eq_true rfl⟩ dX8_isNamed_48 ?_
        refine g_ic_eq (tgt := 56) cx hf dX8_isNamed_51 rfl (fun hf => ?_) (fun hf => ?_)
        · refine g_inc cx (L2 := fun v2_3 => [(2, .int v2_3), (0, .ref (o 0)), (1, .ref (D.2.1 2))]) 2 hf dX8_isNamed_56 rfl (k_inc1 _) (Nat.le_of_ble_eq_true rfl) (fun _ => rfl) (fun v2_3 hf => ?_)
          refine g_goto (tgt := 28) cx dX8_isNamed_59 rfl ?_
          refine g_sub [1, 2, 0] rfl ?_
          exact ih _ hf
        · refine g_ic cx dX8_isNamed_54 k_ic0 ?_
          exact g_zret (ovf := fun (r : Int32) => (some (.int r))) (wf := fun (r : Int32) => (w_X8_isNamed_metre o cB cI cJ cZ s_o)) cx hA hr rfl hf rfl rfl dX8_isNamed_55
  rw [F_X8_isNamed_metre] at hf
  refine g_aln cx 0 dX8_isNamed_0 rfl ?_
  refine fg_RX8_25 cx 0 rfl rfl dX8_isNamed_1 ?_
  refine g_ic cx dX8_isNamed_4 k_ic1 ?_
  refine g_ic_ne (tgt := 24) cx hf dX8_isNamed_5 rfl (fun hf => ?_) (fun hf => ?_)
  · refine g_ic cx dX8_isNamed_24 k_ic0 ?_
    exact g_zret (ovf := fun (r : Int32) => (some (.int r))) (wf := fun (r : Int32) => (w_X8_isNamed_metre o cB cI cJ cZ s_o)) cx hA hr rfl hf rfl rfl dX8_isNamed_25
  · refine g_aln cx 0 dX8_isNamed_8 rfl ?_
    refine fg_RX8_22 cx 0 rfl rfl dX8_isNamed_9 ?_
    refine g_aln cx 0 dX8_isNamed_12 rfl ?_
    refine fg_RX8_19 cx 0 rfl rfl dX8_isNamed_13 ?_
    refine g_isub cx dX8_isNamed_16 ?_
    refine g_aln cx 1 dX8_isNamed_17 rfl ?_
    refine g_callK (x := nI 5) cx lk_RX8_36 rfl (i := 2) (by decide) (c_slength l D cB cI cJ cZ 2 (by decide)) rfl rfl (Nat.le_of_ble_eq_true rfl) ⟨rfl, rfl, Nat.le_of_ble_eq_true rfl, Nat.le_of_ble_eq_true rfl⟩ dX8_isNamed_18 ?_
    refine g_ic_eq (tgt := 26) cx hf dX8_isNamed_21 rfl (fun hf => ?_) (fun hf => ?_)
    · refine g_ic cx dX8_isNamed_26 k_ic0 ?_
      refine g_isn cx (L2 := fun v2_4 => [(2, .int v2_4), (0, .ref (o 0)), (1, .ref (D.2.1 2))]) hf dX8_isNamed_27 (Nat.le_of_ble_eq_true rfl) (fun _ => rfl) (fun v2_4 hf => ?_)
      refine g_sub [1, 2, 0] rfl ?_
      exact h28 fu _ hf
    · refine g_ic cx dX8_isNamed_24 k_ic0 ?_
      exact g_zret (ovf := fun (r : Int32) => (some (.int r))) (wf := fun (r : Int32) => (w_X8_isNamed_metre o cB cI cJ cZ s_o)) cx hA hr rfl hf rfl rfl dX8_isNamed_25


def F_X8_isNamed_line_b28 (s_o : S8) : Nat → Int32 → Option (Int32)
  | 0, _ => none
  | n + 1, v2 => (if (nI 4) ≤ v2 then some (1) else (F_X8_byteAt s_o ((s8_start s_o) + v2)).bind fun q_1 => (aget 4 (fun j => ([108, 105, 110, 101] : List Int32).getD j 0) v2).bind fun c_2 => (if q_1 = c_2 then nm (v2 + 1) fun v2_3 => (F_X8_isNamed_line_b28 s_o n) v2_3 else some (0)))
def F_X8_isNamed_line (s_o : S8) : Option (Int32) := (if (s8_sort s_o) = 1 then (if ((s8_end s_o) - (s8_start s_o)) = (nI 4) then nm 0 fun v2_4 => F_X8_isNamed_line_b28 s_o fu v2_4 else some (0)) else some (0))
def w_X8_isNamed_line (o : Nat → Nat) (cB cI cJ cZ : ClassId) (s_o : S8) : va_W := List.flatten [(gX8 o cB cI cJ cZ s_o)]
abbrev rm_X8_isNamed_line : Room := { frames := 4, cells := 0, slots := 0, locals := 85 }
set_option maxHeartbeats 4000000 in
set_option maxRecDepth 100000 in
theorem c_X8_isNamed_line (l : Launch) (D : gG) (cB cI cJ cZ : ClassId) (o : Nat → Nat) (s_o : S8) (r : Int32) (hf : F_X8_isNamed_line s_o = some r) : gM l D (tyL cB cI cJ cZ) yX8_isNamed cX8_isNamed 3 (some .boolean) rm_X8_isNamed_line [.ref (o 0), .ref (D.2.1 3)] (w_X8_isNamed_line o cB cI cJ cZ s_o) (some (.int r)) (w_X8_isNamed_line o cB cI cJ cZ s_o) := by
  refine met_of (by decide) (Nat.le_of_ble_eq_true rfl) ?_
  intro p e s m args below meth c A cx hr hA
  show gW p l e rm_X8_isNamed_line s m args below meth c D A 3 _ 0 0 _ [(0, .ref (o 0)), (1, .ref (D.2.1 3))] 0 []
  have h28 : ∀ (n : Nat) (v2 : Int32), F_X8_isNamed_line_b28 s_o n v2 = some r → gW p l e rm_X8_isNamed_line s m args below meth c D A 3 (MQ below (QM D (tyL cB cI cJ cZ) (some (.int r)) (w_X8_isNamed_line o cB cI cJ cZ s_o) (w_X8_isNamed_line o cB cI cJ cZ s_o) s.heap.size) args s 0 0 A) 0 0 (w_X8_isNamed_line o cB cI cJ cZ s_o) [(0, .ref (o 0)), (1, .ref (D.2.1 3)), (2, .int v2)] 28 [] := by
    intro n
    induction n with
    | zero => intro v2 hf; rw [F_X8_isNamed_line_b28] at hf; cases hf
    | succ n ih =>
      intro v2 hf
      rw [F_X8_isNamed_line_b28] at hf
      refine g_iln cx 2 dX8_isNamed_28 rfl ?_
      refine g_aln cx 1 dX8_isNamed_29 rfl ?_
      refine g_callK (x := nI 4) cx lk_RX8_36 rfl (i := 3) (by decide) (c_slength l D cB cI cJ cZ 3 (by decide)) rfl rfl (Nat.le_of_ble_eq_true rfl) ⟨rfl, rfl, Nat.le_of_ble_eq_true rfl, Nat.le_of_ble_eq_true rfl⟩ dX8_isNamed_30 ?_
      refine g_ic_ge (tgt := 62) cx hf dX8_isNamed_33 rfl (fun hf => ?_) (fun hf => ?_)
      · refine g_ic cx dX8_isNamed_62 k_ic1 ?_
        exact g_zret (ovf := fun (r : Int32) => (some (.int r))) (wf := fun (r : Int32) => (w_X8_isNamed_line o cB cI cJ cZ s_o)) cx hA hr rfl hf rfl rfl dX8_isNamed_63
      · refine g_aln cx 0 dX8_isNamed_36 rfl ?_
        refine g_aln cx 0 dX8_isNamed_37 rfl ?_
        refine fg_RX8_19 cx 0 rfl rfl dX8_isNamed_38 ?_
        refine g_iln cx 2 dX8_isNamed_41 rfl ?_
        refine g_iadd cx dX8_isNamed_42 ?_
        refine ob hf (fun q_1 hq_1 hf => ?_)
        refine g_callVGiR cx lk_RX8_32 (c_X8_byteAt l D cB cI cJ cZ o s_o ((s8_start s_o) + v2) q_1 hq_1) rfl [0] rfl rfl (ci := 6) (q1 := 0) rfl rfl rfl (Nat.le_of_ble_eq_true rfl) ⟨rfl, rfl, Nat.le_of_ble_eq_true rfl, Nat.le_of_ble_eq_true rfl⟩ dX8_isNamed_43 ?_
        refine g_aln cx 1 dX8_isNamed_46 rfl ?_
        refine g_iln cx 2 dX8_isNamed_47 rfl ?_
        refine ob hf (fun c_2 hc_2 hf => ?_)
        refine g_callK (x := c_2) cx lk_RX8_41 rfl (i := 3) (by decide) (c_scharAt l D cB cI cJ cZ 3 (by decide) _ c_2 hc_2) rfl rfl (Nat.le_of_ble_eq_true rfl) ⟨rfl, rfl, Nat.le_of_ble_eq_true rfl, Nat.le_of_ble_eq_true rfl⟩ dX8_isNamed_48 ?_
        refine g_ic_eq (tgt := 56) cx hf dX8_isNamed_51 rfl (fun hf => ?_) (fun hf => ?_)
        · refine g_inc cx (L2 := fun v2_3 => [(2, .int v2_3), (0, .ref (o 0)), (1, .ref (D.2.1 3))]) 2 hf dX8_isNamed_56 rfl (k_inc1 _) (Nat.le_of_ble_eq_true rfl) (fun _ => rfl) (fun v2_3 hf => ?_)
          refine g_goto (tgt := 28) cx dX8_isNamed_59 rfl ?_
          refine g_sub [1, 2, 0] rfl ?_
          exact ih _ hf
        · refine g_ic cx dX8_isNamed_54 k_ic0 ?_
          exact g_zret (ovf := fun (r : Int32) => (some (.int r))) (wf := fun (r : Int32) => (w_X8_isNamed_line o cB cI cJ cZ s_o)) cx hA hr rfl hf rfl rfl dX8_isNamed_55
  rw [F_X8_isNamed_line] at hf
  refine g_aln cx 0 dX8_isNamed_0 rfl ?_
  refine fg_RX8_25 cx 0 rfl rfl dX8_isNamed_1 ?_
  refine g_ic cx dX8_isNamed_4 k_ic1 ?_
  refine g_ic_ne (tgt := 24) cx hf dX8_isNamed_5 rfl (fun hf => ?_) (fun hf => ?_)
  · refine g_ic cx dX8_isNamed_24 k_ic0 ?_
    exact g_zret (ovf := fun (r : Int32) => (some (.int r))) (wf := fun (r : Int32) => (w_X8_isNamed_line o cB cI cJ cZ s_o)) cx hA hr rfl hf rfl rfl dX8_isNamed_25
  · refine g_aln cx 0 dX8_isNamed_8 rfl ?_
    refine fg_RX8_22 cx 0 rfl rfl dX8_isNamed_9 ?_
    refine g_aln cx 0 dX8_isNamed_12 rfl ?_
    refine fg_RX8_19 cx 0 rfl rfl dX8_isNamed_13 ?_
    refine g_isub cx dX8_isNamed_16 ?_
    refine g_aln cx 1 dX8_isNamed_17 rfl ?_
    refine g_callK (x := nI 4) cx lk_RX8_36 rfl (i := 3) (by decide) (c_slength l D cB cI cJ cZ 3 (by decide)) rfl rfl (Nat.le_of_ble_eq_true rfl) ⟨rfl, rfl, Nat.le_of_ble_eq_true rfl, Nat.le_of_ble_eq_true rfl⟩ dX8_isNamed_18 ?_
    refine g_ic_eq (tgt := 26) cx hf dX8_isNamed_21 rfl (fun hf => ?_) (fun hf => ?_)
    · refine g_ic cx dX8_isNamed_26 k_ic0 ?_
      refine g_isn cx (L2 := fun v2_4 => [(2, .int v2_4), (0, .ref (o 0)), (1, .ref (D.2.1 3))]) hf dX8_isNamed_27 (Nat.le_of_ble_eq_true rfl) (fun _ => rfl) (fun v2_4 hf => ?_)
      refine g_sub [1, 2, 0] rfl ?_
      exact h28 fu _ hf
    · refine g_ic cx dX8_isNamed_24 k_ic0 ?_
      exact g_zret (ovf := fun (r : Int32) => (some (.int r))) (wf := fun (r : Int32) => (w_X8_isNamed_line o cB cI cJ cZ s_o)) cx hA hr rfl hf rfl rfl dX8_isNamed_25


def F_X8_isNamed_stock_b28 (s_o : S8) : Nat → Int32 → Option (Int32)
  | 0, _ => none
  | n + 1, v2 => (if (nI 5) ≤ v2 then some (1) else (F_X8_byteAt s_o ((s8_start s_o) + v2)).bind fun q_1 => (aget 5 (fun j => ([115, 116, 111, 99, 107] : List Int32).getD j 0) v2).bind fun c_2 => (if q_1 = c_2 then nm (v2 + 1) fun v2_3 => (F_X8_isNamed_stock_b28 s_o n) v2_3 else some (0)))
def F_X8_isNamed_stock (s_o : S8) : Option (Int32) := (if (s8_sort s_o) = 1 then (if ((s8_end s_o) - (s8_start s_o)) = (nI 5) then nm 0 fun v2_4 => F_X8_isNamed_stock_b28 s_o fu v2_4 else some (0)) else some (0))
def w_X8_isNamed_stock (o : Nat → Nat) (cB cI cJ cZ : ClassId) (s_o : S8) : va_W := List.flatten [(gX8 o cB cI cJ cZ s_o)]
abbrev rm_X8_isNamed_stock : Room := { frames := 4, cells := 0, slots := 0, locals := 85 }
set_option maxHeartbeats 4000000 in
set_option maxRecDepth 100000 in
theorem c_X8_isNamed_stock (l : Launch) (D : gG) (cB cI cJ cZ : ClassId) (o : Nat → Nat) (s_o : S8) (r : Int32) (hf : F_X8_isNamed_stock s_o = some r) : gM l D (tyL cB cI cJ cZ) yX8_isNamed cX8_isNamed 3 (some .boolean) rm_X8_isNamed_stock [.ref (o 0), .ref (D.2.1 4)] (w_X8_isNamed_stock o cB cI cJ cZ s_o) (some (.int r)) (w_X8_isNamed_stock o cB cI cJ cZ s_o) := by
  refine met_of (by decide) (Nat.le_of_ble_eq_true rfl) ?_
  intro p e s m args below meth c A cx hr hA
  show gW p l e rm_X8_isNamed_stock s m args below meth c D A 3 _ 0 0 _ [(0, .ref (o 0)), (1, .ref (D.2.1 4))] 0 []
  have h28 : ∀ (n : Nat) (v2 : Int32), F_X8_isNamed_stock_b28 s_o n v2 = some r → gW p l e rm_X8_isNamed_stock s m args below meth c D A 3 (MQ below (QM D (tyL cB cI cJ cZ) (some (.int r)) (w_X8_isNamed_stock o cB cI cJ cZ s_o) (w_X8_isNamed_stock o cB cI cJ cZ s_o) s.heap.size) args s 0 0 A) 0 0 (w_X8_isNamed_stock o cB cI cJ cZ s_o) [(0, .ref (o 0)), (1, .ref (D.2.1 4)), (2, .int v2)] 28 [] := by
    intro n
    induction n with
    | zero => intro v2 hf; rw [F_X8_isNamed_stock_b28] at hf; cases hf
    | succ n ih =>
      intro v2 hf
      rw [F_X8_isNamed_stock_b28] at hf
      refine g_iln cx 2 dX8_isNamed_28 rfl ?_
      refine g_aln cx 1 dX8_isNamed_29 rfl ?_
      refine g_callK (x := nI 5) cx lk_RX8_36 rfl (i := 4) (by decide) (c_slength l D cB cI cJ cZ 4 (by decide)) rfl rfl (Nat.le_of_ble_eq_true rfl) ⟨rfl, rfl, Nat.le_of_ble_eq_true rfl, Nat.le_of_ble_eq_true rfl⟩ dX8_isNamed_30 ?_
      refine g_ic_ge (tgt := 62) cx hf dX8_isNamed_33 rfl (fun hf => ?_) (fun hf => ?_)
      · refine g_ic cx dX8_isNamed_62 k_ic1 ?_
        exact g_zret (ovf := fun (r : Int32) => (some (.int r))) (wf := fun (r : Int32) => (w_X8_isNamed_stock o cB cI cJ cZ s_o)) cx hA hr rfl hf rfl rfl dX8_isNamed_63
      · refine g_aln cx 0 dX8_isNamed_36 rfl ?_
        refine g_aln cx 0 dX8_isNamed_37 rfl ?_
        refine fg_RX8_19 cx 0 rfl rfl dX8_isNamed_38 ?_
        refine g_iln cx 2 dX8_isNamed_41 rfl ?_
        refine g_iadd cx dX8_isNamed_42 ?_
        refine ob hf (fun q_1 hq_1 hf => ?_)
        refine g_callVGiR cx lk_RX8_32 (c_X8_byteAt l D cB cI cJ cZ o s_o ((s8_start s_o) + v2) q_1 hq_1) rfl [0] rfl rfl (ci := 6) (q1 := 0) rfl rfl rfl (Nat.le_of_ble_eq_true rfl) ⟨rfl, rfl, Nat.le_of_ble_eq_true rfl, Nat.le_of_ble_eq_true rfl⟩ dX8_isNamed_43 ?_
        refine g_aln cx 1 dX8_isNamed_46 rfl ?_
        refine g_iln cx 2 dX8_isNamed_47 rfl ?_
        refine ob hf (fun c_2 hc_2 hf => ?_)
        refine g_callK (x := c_2) cx lk_RX8_41 rfl (i := 4) (by decide) (c_scharAt l D cB cI cJ cZ 4 (by decide) _ c_2 hc_2) rfl rfl (Nat.le_of_ble_eq_true rfl) ⟨rfl, rfl, Nat.le_of_ble_eq_true rfl, Nat.le_of_ble_eq_true rfl⟩ dX8_isNamed_48 ?_
        refine g_ic_eq (tgt := 56) cx hf dX8_isNamed_51 rfl (fun hf => ?_) (fun hf => ?_)
        · refine g_inc cx (L2 := fun v2_3 => [(2, .int v2_3), (0, .ref (o 0)), (1, .ref (D.2.1 4))]) 2 hf dX8_isNamed_56 rfl (k_inc1 _) (Nat.le_of_ble_eq_true rfl) (fun _ => rfl) (fun v2_3 hf => ?_)
          refine g_goto (tgt := 28) cx dX8_isNamed_59 rfl ?_
          refine g_sub [1, 2, 0] rfl ?_
          exact ih _ hf
        · refine g_ic cx dX8_isNamed_54 k_ic0 ?_
          exact g_zret (ovf := fun (r : Int32) => (some (.int r))) (wf := fun (r : Int32) => (w_X8_isNamed_stock o cB cI cJ cZ s_o)) cx hA hr rfl hf rfl rfl dX8_isNamed_55
  rw [F_X8_isNamed_stock] at hf
  refine g_aln cx 0 dX8_isNamed_0 rfl ?_
  refine fg_RX8_25 cx 0 rfl rfl dX8_isNamed_1 ?_
  refine g_ic cx dX8_isNamed_4 k_ic1 ?_
  refine g_ic_ne (tgt := 24) cx hf dX8_isNamed_5 rfl (fun hf => ?_) (fun hf => ?_)
  · refine g_ic cx dX8_isNamed_24 k_ic0 ?_
    exact g_zret (ovf := fun (r : Int32) => (some (.int r))) (wf := fun (r : Int32) => (w_X8_isNamed_stock o cB cI cJ cZ s_o)) cx hA hr rfl hf rfl rfl dX8_isNamed_25
  · refine g_aln cx 0 dX8_isNamed_8 rfl ?_
    refine fg_RX8_22 cx 0 rfl rfl dX8_isNamed_9 ?_
    refine g_aln cx 0 dX8_isNamed_12 rfl ?_
    refine fg_RX8_19 cx 0 rfl rfl dX8_isNamed_13 ?_
    refine g_isub cx dX8_isNamed_16 ?_
    refine g_aln cx 1 dX8_isNamed_17 rfl ?_
    refine g_callK (x := nI 5) cx lk_RX8_36 rfl (i := 4) (by decide) (c_slength l D cB cI cJ cZ 4 (by decide)) rfl rfl (Nat.le_of_ble_eq_true rfl) ⟨rfl, rfl, Nat.le_of_ble_eq_true rfl, Nat.le_of_ble_eq_true rfl⟩ dX8_isNamed_18 ?_
    refine g_ic_eq (tgt := 26) cx hf dX8_isNamed_21 rfl (fun hf => ?_) (fun hf => ?_)
    · refine g_ic cx dX8_isNamed_26 k_ic0 ?_
      refine g_isn cx (L2 := fun v2_4 => [(2, .int v2_4), (0, .ref (o 0)), (1, .ref (D.2.1 4))]) hf dX8_isNamed_27 (Nat.le_of_ble_eq_true rfl) (fun _ => rfl) (fun v2_4 hf => ?_)
      refine g_sub [1, 2, 0] rfl ?_
      exact h28 fu _ hf
    · refine g_ic cx dX8_isNamed_24 k_ic0 ?_
      exact g_zret (ovf := fun (r : Int32) => (some (.int r))) (wf := fun (r : Int32) => (w_X8_isNamed_stock o cB cI cJ cZ s_o)) cx hA hr rfl hf rfl rfl dX8_isNamed_25
