theorem dJ7_fill_53178_0 : decode cJ7_fill_53178 0 = .ok (.iconst 0, 1) := by decide +kernel
theorem dJ7_fill_53178_1 : decode cJ7_fill_53178 1 = .ok (.istore_n 2, 1) := by decide +kernel
theorem dJ7_fill_53178_2 : decode cJ7_fill_53178 2 = .ok (.aload_n 0, 1) := by decide +kernel
theorem dJ7_fill_53178_3 : decode cJ7_fill_53178 3 = .ok (.arraylength, 1) := by decide +kernel
theorem dJ7_fill_53178_4 : decode cJ7_fill_53178 4 = .ok (.istore_n 3, 1) := by decide +kernel
theorem dJ7_fill_53178_5 : decode cJ7_fill_53178 5 = .ok (.iload_n 2, 1) := by decide +kernel
theorem dJ7_fill_53178_6 : decode cJ7_fill_53178 6 = .ok (.iload_n 3, 1) := by decide +kernel
theorem dJ7_fill_53178_7 : decode cJ7_fill_53178 7 = .ok (.if_icmp .ge 13, 3) := by decide +kernel
theorem dJ7_fill_53178_10 : decode cJ7_fill_53178 10 = .ok (.aload_n 0, 1) := by decide +kernel
theorem dJ7_fill_53178_11 : decode cJ7_fill_53178 11 = .ok (.iload_n 2, 1) := by decide +kernel
theorem dJ7_fill_53178_12 : decode cJ7_fill_53178 12 = .ok (.iload_n 1, 1) := by decide +kernel
theorem dJ7_fill_53178_13 : decode cJ7_fill_53178 13 = .ok (.iastore, 1) := by decide +kernel
theorem dJ7_fill_53178_14 : decode cJ7_fill_53178 14 = .ok (.iinc 2 1, 3) := by decide +kernel
theorem dJ7_fill_53178_17 : decode cJ7_fill_53178 17 = .ok (.goto (-12), 3) := by decide +kernel
theorem dJ7_fill_53178_20 : decode cJ7_fill_53178 20 = .ok (.return_, 1) := by decide +kernel


def F_J7_fill_53178_b5 (n_a0 : Nat) (x1 : Int32) : Nat → Int32 → Int32 → (Nat → Int32) → Option ((Nat → Int32))
  | 0, _, _, _ => none
  | n + 1, v2, v3, zf_a0 => (if v3 ≤ v2 then some (zf_a0) else (aset n_a0 zf_a0 v2 x1).bind fun f_1 => nm (v2 + 1) fun v2_2 => (F_J7_fill_53178_b5 n_a0 x1 n) v2_2 v3 f_1)
def F_J7_fill_53178 (n_a0 : Nat) (f_a0 : (Nat → Int32)) (x1 : Int32) : Option ((Nat → Int32)) := nm 0 fun v2_3 => nm (Int32.ofNat n_a0) fun v3_4 => F_J7_fill_53178_b5 n_a0 x1 fu v2_3 v3_4 f_a0
def w_J7_fill_53178 (a0 : Nat) (cB cI cJ cZ : ClassId) (n_a0 : Nat) (f_a0 : (Nat → Int32)) : va_W := List.flatten [[(a0, .inl (cI, n_a0, .inl f_a0))]]
abbrev rm_J7_fill_53178 : Room := { frames := 0, cells := 0, slots := 0, locals := 0 }
set_option maxHeartbeats 4000000 in
set_option maxRecDepth 100000 in
theorem c_J7_fill_53178 (l : Launch) (D : gG) (cB cI cJ cZ : ClassId) (a0 : Nat) (n_a0 : Nat) (f_a0 : (Nat → Int32)) (x1 : Int32) (r : (Nat → Int32)) (hf : F_J7_fill_53178 n_a0 f_a0 x1 = some r) : gM l D (tyL cB cI cJ cZ) yJ7_fill_53178 cJ7_fill_53178 4 none rm_J7_fill_53178 [.ref a0, .int x1] (w_J7_fill_53178 a0 cB cI cJ cZ n_a0 f_a0) none (w_J7_fill_53178 a0 cB cI cJ cZ n_a0 r) := by
  refine met_of (by decide) (Nat.le_of_ble_eq_true rfl) ?_
  intro p e s m args below meth c A cx hr hA
  show gW p l e rm_J7_fill_53178 s m args below meth c D A 4 _ 0 0 _ [(0, .ref a0), (1, .int x1)] 0 []
  have h5 : ∀ (n : Nat) (v2 : Int32) (v3 : Int32) (zf_a0 : (Nat → Int32)), F_J7_fill_53178_b5 n_a0 x1 n v2 v3 zf_a0 = some r → gW p l e rm_J7_fill_53178 s m args below meth c D A 4 (MQ below (QM D (tyL cB cI cJ cZ) none (w_J7_fill_53178 a0 cB cI cJ cZ n_a0 f_a0) (w_J7_fill_53178 a0 cB cI cJ cZ n_a0 r) s.heap.size) args s 0 0 A) 0 0 (w_J7_fill_53178 a0 cB cI cJ cZ n_a0 zf_a0) [(0, .ref a0), (1, .int x1), (2, .int v2), (3, .int v3)] 5 [] := by
    intro n
    induction n with
    | zero => intro v2 v3 zf_a0 hf; rw [F_J7_fill_53178_b5] at hf; cases hf
    | succ n ih =>
      intro v2 v3 zf_a0 hf
      rw [F_J7_fill_53178_b5] at hf
      refine g_iln cx 2 dJ7_fill_53178_5 rfl ?_
      refine g_iln cx 3 dJ7_fill_53178_6 rfl ?_
      refine g_ic_ge (tgt := 20) cx hf dJ7_fill_53178_7 rfl (fun hf => ?_) (fun hf => ?_)
      · exact g_vret (ovf := fun (r : (Nat → Int32)) => none) (wf := fun (r : (Nat → Int32)) => (w_J7_fill_53178 a0 cB cI cJ cZ n_a0 r)) cx hA hr hf rfl rfl dJ7_fill_53178_20
      · refine g_aln cx 0 dJ7_fill_53178_10 rfl ?_
        refine g_iln cx 2 dJ7_fill_53178_11 rfl ?_
        refine g_iln cx 1 dJ7_fill_53178_12 rfl ?_
        refine g_iast cx 0 1 (ws' := fun f_1 => (w_J7_fill_53178 a0 cB cI cJ cZ n_a0 f_1)) hf rfl rfl (fun _ => rfl) dJ7_fill_53178_13 (fun f_1 hf => ?_)
        refine g_inc cx (L2 := fun v2_2 => [(2, .int v2_2), (0, .ref a0), (1, .int x1), (3, .int v3)]) 2 hf dJ7_fill_53178_14 rfl (k_inc1 _) (Nat.le_of_ble_eq_true rfl) (fun _ => rfl) (fun v2_2 hf => ?_)
        refine g_goto (tgt := 5) cx dJ7_fill_53178_17 rfl ?_
        refine g_sub [1, 2, 0, 3] rfl ?_
        exact ih _ _ _ hf
  rw [F_J7_fill_53178] at hf
  refine g_ic cx dJ7_fill_53178_0 k_ic0 ?_
  refine g_isn cx (L2 := fun v2_3 => [(2, .int v2_3), (0, .ref a0), (1, .int x1)]) hf dJ7_fill_53178_1 (Nat.le_of_ble_eq_true rfl) (fun _ => rfl) (fun v2_3 hf => ?_)
  refine g_aln cx 1 dJ7_fill_53178_2 rfl ?_
  refine g_alen cx 0 1 rfl rfl rfl dJ7_fill_53178_3 ?_
  refine g_isn cx (L2 := fun v3_4 => [(3, .int v3_4), (2, .int v2_3), (0, .ref a0), (1, .int x1)]) hf dJ7_fill_53178_4 (Nat.le_of_ble_eq_true rfl) (fun _ => rfl) (fun v3_4 hf => ?_)
  refine g_sub [2, 3, 1, 0] rfl ?_
  exact h5 fu _ _ _ hf
theorem dJ6_bitCount_0f7a4_0 : decode cJ6_bitCount_0f7a4 0 = .ok (.iload_n 0, 1) := by decide +kernel
theorem dJ6_bitCount_0f7a4_1 : decode cJ6_bitCount_0f7a4 1 = .ok (.iload_n 0, 1) := by decide +kernel
theorem dJ6_bitCount_0f7a4_2 : decode cJ6_bitCount_0f7a4 2 = .ok (.iconst 1, 1) := by decide +kernel
theorem dJ6_bitCount_0f7a4_3 : decode cJ6_bitCount_0f7a4 3 = .ok (.iushr, 1) := by decide +kernel
theorem dJ6_bitCount_0f7a4_4 : decode cJ6_bitCount_0f7a4 4 = .ok (.ldc_w 265, 3) := by decide +kernel
theorem dJ6_bitCount_0f7a4_7 : decode cJ6_bitCount_0f7a4 7 = .ok (.iand, 1) := by decide +kernel
theorem dJ6_bitCount_0f7a4_8 : decode cJ6_bitCount_0f7a4 8 = .ok (.isub, 1) := by decide +kernel
theorem dJ6_bitCount_0f7a4_9 : decode cJ6_bitCount_0f7a4 9 = .ok (.istore_n 0, 1) := by decide +kernel
theorem dJ6_bitCount_0f7a4_10 : decode cJ6_bitCount_0f7a4 10 = .ok (.iload_n 0, 1) := by decide +kernel
theorem dJ6_bitCount_0f7a4_11 : decode cJ6_bitCount_0f7a4 11 = .ok (.ldc_w 266, 3) := by decide +kernel
theorem dJ6_bitCount_0f7a4_14 : decode cJ6_bitCount_0f7a4 14 = .ok (.iand, 1) := by decide +kernel
theorem dJ6_bitCount_0f7a4_15 : decode cJ6_bitCount_0f7a4 15 = .ok (.iload_n 0, 1) := by decide +kernel
theorem dJ6_bitCount_0f7a4_16 : decode cJ6_bitCount_0f7a4 16 = .ok (.iconst 2, 1) := by decide +kernel
theorem dJ6_bitCount_0f7a4_17 : decode cJ6_bitCount_0f7a4 17 = .ok (.iushr, 1) := by decide +kernel
theorem dJ6_bitCount_0f7a4_18 : decode cJ6_bitCount_0f7a4 18 = .ok (.ldc_w 266, 3) := by decide +kernel
theorem dJ6_bitCount_0f7a4_21 : decode cJ6_bitCount_0f7a4 21 = .ok (.iand, 1) := by decide +kernel
theorem dJ6_bitCount_0f7a4_22 : decode cJ6_bitCount_0f7a4 22 = .ok (.iadd, 1) := by decide +kernel
theorem dJ6_bitCount_0f7a4_23 : decode cJ6_bitCount_0f7a4 23 = .ok (.istore_n 0, 1) := by decide +kernel
theorem dJ6_bitCount_0f7a4_24 : decode cJ6_bitCount_0f7a4 24 = .ok (.iload_n 0, 1) := by decide +kernel
theorem dJ6_bitCount_0f7a4_25 : decode cJ6_bitCount_0f7a4 25 = .ok (.iload_n 0, 1) := by decide +kernel
theorem dJ6_bitCount_0f7a4_26 : decode cJ6_bitCount_0f7a4 26 = .ok (.iconst 4, 1) := by decide +kernel
theorem dJ6_bitCount_0f7a4_27 : decode cJ6_bitCount_0f7a4 27 = .ok (.iushr, 1) := by decide +kernel
theorem dJ6_bitCount_0f7a4_28 : decode cJ6_bitCount_0f7a4 28 = .ok (.iadd, 1) := by decide +kernel
theorem dJ6_bitCount_0f7a4_29 : decode cJ6_bitCount_0f7a4 29 = .ok (.ldc_w 267, 3) := by decide +kernel
theorem dJ6_bitCount_0f7a4_32 : decode cJ6_bitCount_0f7a4 32 = .ok (.iand, 1) := by decide +kernel
theorem dJ6_bitCount_0f7a4_33 : decode cJ6_bitCount_0f7a4 33 = .ok (.istore_n 0, 1) := by decide +kernel
theorem dJ6_bitCount_0f7a4_34 : decode cJ6_bitCount_0f7a4 34 = .ok (.iload_n 0, 1) := by decide +kernel
theorem dJ6_bitCount_0f7a4_35 : decode cJ6_bitCount_0f7a4 35 = .ok (.iload_n 0, 1) := by decide +kernel
theorem dJ6_bitCount_0f7a4_36 : decode cJ6_bitCount_0f7a4 36 = .ok (.bipush 8, 2) := by decide +kernel
theorem dJ6_bitCount_0f7a4_38 : decode cJ6_bitCount_0f7a4 38 = .ok (.iushr, 1) := by decide +kernel
theorem dJ6_bitCount_0f7a4_39 : decode cJ6_bitCount_0f7a4 39 = .ok (.iadd, 1) := by decide +kernel
theorem dJ6_bitCount_0f7a4_40 : decode cJ6_bitCount_0f7a4 40 = .ok (.istore_n 0, 1) := by decide +kernel
theorem dJ6_bitCount_0f7a4_41 : decode cJ6_bitCount_0f7a4 41 = .ok (.iload_n 0, 1) := by decide +kernel
theorem dJ6_bitCount_0f7a4_42 : decode cJ6_bitCount_0f7a4 42 = .ok (.iload_n 0, 1) := by decide +kernel
theorem dJ6_bitCount_0f7a4_43 : decode cJ6_bitCount_0f7a4 43 = .ok (.bipush 16, 2) := by decide +kernel
theorem dJ6_bitCount_0f7a4_45 : decode cJ6_bitCount_0f7a4 45 = .ok (.iushr, 1) := by decide +kernel
theorem dJ6_bitCount_0f7a4_46 : decode cJ6_bitCount_0f7a4 46 = .ok (.iadd, 1) := by decide +kernel
theorem dJ6_bitCount_0f7a4_47 : decode cJ6_bitCount_0f7a4 47 = .ok (.istore_n 0, 1) := by decide +kernel
theorem dJ6_bitCount_0f7a4_48 : decode cJ6_bitCount_0f7a4 48 = .ok (.iload_n 0, 1) := by decide +kernel
theorem dJ6_bitCount_0f7a4_49 : decode cJ6_bitCount_0f7a4 49 = .ok (.bipush 63, 2) := by decide +kernel
theorem dJ6_bitCount_0f7a4_51 : decode cJ6_bitCount_0f7a4 51 = .ok (.iand, 1) := by decide +kernel
theorem dJ6_bitCount_0f7a4_52 : decode cJ6_bitCount_0f7a4 52 = .ok (.ireturn, 1) := by decide +kernel
theorem k_bp8 : (Int8.ofInt (8)).toInt32 = 8 := by decide
theorem k_bp16 : (Int8.ofInt (16)).toInt32 = 16 := by decide
theorem k_bp63 : (Int8.ofInt (63)).toInt32 = 63 := by decide
theorem q3_213 : Cond.constant RJ6 265 (1431655765) ∈ TT := tq3 213 rfl rfl
theorem q3_214 : Cond.constant RJ6 266 (858993459) ∈ TT := tq3 214 rfl rfl
theorem q3_215 : Cond.constant RJ6 267 (252645135) ∈ TT := tq3 215 rfl rfl

def F_J6_bitCount_0f7a4 (x0 : Int32) : Option (Int32) := nm (x0 - ((x0.toUInt32 >>> (Int32.toUInt32 1 &&& Int32.toUInt32 31)).toInt32 &&& (1431655765))) fun v0_1 => nm ((v0_1 &&& (858993459)) + ((v0_1.toUInt32 >>> (Int32.toUInt32 2 &&& Int32.toUInt32 31)).toInt32 &&& (858993459))) fun v0_2 => nm ((v0_2 + (v0_2.toUInt32 >>> (Int32.toUInt32 4 &&& Int32.toUInt32 31)).toInt32) &&& (252645135)) fun v0_3 => nm (v0_3 + (v0_3.toUInt32 >>> (Int32.toUInt32 8 &&& Int32.toUInt32 31)).toInt32) fun v0_4 => nm (v0_4 + (v0_4.toUInt32 >>> (Int32.toUInt32 16 &&& Int32.toUInt32 31)).toInt32) fun v0_5 => some ((v0_5 &&& 63))
def w_J6_bitCount_0f7a4 (cB cI cJ cZ : ClassId) : va_W := List.flatten []
abbrev rm_J6_bitCount_0f7a4 : Room := { frames := 0, cells := 0, slots := 0, locals := 0 }
set_option maxHeartbeats 4000000 in
set_option maxRecDepth 100000 in
theorem c_J6_bitCount_0f7a4 (l : Launch) (D : gG) (cB cI cJ cZ : ClassId) (x0 : Int32) (r : Int32) (hf : F_J6_bitCount_0f7a4 x0 = some r) : gM l D (tyL cB cI cJ cZ) yJ6_bitCount_0f7a4 cJ6_bitCount_0f7a4 1 (some .int) rm_J6_bitCount_0f7a4 [.int x0] (w_J6_bitCount_0f7a4 cB cI cJ cZ) (some (.int r)) (w_J6_bitCount_0f7a4 cB cI cJ cZ) := by
  refine met_of (by decide) (Nat.le_of_ble_eq_true rfl) ?_
  intro p e s m args below meth c A cx hr hA
  show gW p l e rm_J6_bitCount_0f7a4 s m args below meth c D A 1 _ 0 0 _ [(0, .int x0)] 0 []
  rw [F_J6_bitCount_0f7a4] at hf
  refine g_iln cx 0 dJ6_bitCount_0f7a4_0 rfl ?_
  refine g_iln cx 0 dJ6_bitCount_0f7a4_1 rfl ?_
  refine g_ic cx dJ6_bitCount_0f7a4_2 k_ic1 ?_
  refine g_iushr cx dJ6_bitCount_0f7a4_3 ?_
  refine g_ldcw cx q3_213 dJ6_bitCount_0f7a4_4 ?_
  refine g_iand cx dJ6_bitCount_0f7a4_7 ?_
  refine g_isub cx dJ6_bitCount_0f7a4_8 ?_
  refine g_isn cx (L2 := fun v0_1 => [(0, .int v0_1)]) hf dJ6_bitCount_0f7a4_9 (Nat.le_of_ble_eq_true rfl) (fun _ => rfl) (fun v0_1 hf => ?_)
  refine g_iln cx 0 dJ6_bitCount_0f7a4_10 rfl ?_
  refine g_ldcw cx q3_214 dJ6_bitCount_0f7a4_11 ?_
  refine g_iand cx dJ6_bitCount_0f7a4_14 ?_
  refine g_iln cx 0 dJ6_bitCount_0f7a4_15 rfl ?_
  refine g_ic cx dJ6_bitCount_0f7a4_16 k_ic2 ?_
  refine g_iushr cx dJ6_bitCount_0f7a4_17 ?_
  refine g_ldcw cx q3_214 dJ6_bitCount_0f7a4_18 ?_
  refine g_iand cx dJ6_bitCount_0f7a4_21 ?_
  refine g_iadd cx dJ6_bitCount_0f7a4_22 ?_
  refine g_isn cx (L2 := fun v0_2 => [(0, .int v0_2)]) hf dJ6_bitCount_0f7a4_23 (Nat.le_of_ble_eq_true rfl) (fun _ => rfl) (fun v0_2 hf => ?_)
  refine g_iln cx 0 dJ6_bitCount_0f7a4_24 rfl ?_
  refine g_iln cx 0 dJ6_bitCount_0f7a4_25 rfl ?_
  refine g_ic cx dJ6_bitCount_0f7a4_26 k_ic4 ?_
  refine g_iushr cx dJ6_bitCount_0f7a4_27 ?_
  refine g_iadd cx dJ6_bitCount_0f7a4_28 ?_
  refine g_ldcw cx q3_215 dJ6_bitCount_0f7a4_29 ?_
  refine g_iand cx dJ6_bitCount_0f7a4_32 ?_
  refine g_isn cx (L2 := fun v0_3 => [(0, .int v0_3)]) hf dJ6_bitCount_0f7a4_33 (Nat.le_of_ble_eq_true rfl) (fun _ => rfl) (fun v0_3 hf => ?_)
  refine g_iln cx 0 dJ6_bitCount_0f7a4_34 rfl ?_
  refine g_iln cx 0 dJ6_bitCount_0f7a4_35 rfl ?_
  refine g_bp cx dJ6_bitCount_0f7a4_36 k_bp8 ?_
  refine g_iushr cx dJ6_bitCount_0f7a4_38 ?_
  refine g_iadd cx dJ6_bitCount_0f7a4_39 ?_
  refine g_isn cx (L2 := fun v0_4 => [(0, .int v0_4)]) hf dJ6_bitCount_0f7a4_40 (Nat.le_of_ble_eq_true rfl) (fun _ => rfl) (fun v0_4 hf => ?_)
  refine g_iln cx 0 dJ6_bitCount_0f7a4_41 rfl ?_
  refine g_iln cx 0 dJ6_bitCount_0f7a4_42 rfl ?_
  refine g_bp cx dJ6_bitCount_0f7a4_43 k_bp16 ?_
  refine g_iushr cx dJ6_bitCount_0f7a4_45 ?_
  refine g_iadd cx dJ6_bitCount_0f7a4_46 ?_
  refine g_isn cx (L2 := fun v0_5 => [(0, .int v0_5)]) hf dJ6_bitCount_0f7a4_47 (Nat.le_of_ble_eq_true rfl) (fun _ => rfl) (fun v0_5 hf => ?_)
  refine g_iln cx 0 dJ6_bitCount_0f7a4_48 rfl ?_
  refine g_bp cx dJ6_bitCount_0f7a4_49 k_bp63 ?_
  refine g_iand cx dJ6_bitCount_0f7a4_51 ?_
  exact g_iret (ovf := fun (r : Int32) => (some (.int r))) (wf := fun (r : Int32) => (w_J6_bitCount_0f7a4 cB cI cJ cZ)) cx hA hr hf rfl rfl dJ6_bitCount_0f7a4_52
theorem dX10_size_0 : decode cX10_size 0 = .ok (.aload_n 0, 1) := by decide +kernel
theorem dX10_size_1 : decode cX10_size 1 = .ok (.getfield 21, 3) := by decide +kernel
theorem dX10_size_4 : decode cX10_size 4 = .ok (.ireturn, 1) := by decide +kernel
theorem q1_169 : Cond.fieldLink RX10 21 "RhymeLaw$Words" "size" "I" ∈ TT := tq1 169 rfl rfl
theorem fg_RX10_21 {p : Program} {l : Launch} {e : Env} {R : Room} {s : State} {m : MethodId} {args : Array Value} {below : List Frame} {meth : Method} {c : Code} {D : gG} {tys : List (ClassId × FieldType)} {A : Nat → Prop} {nL : Nat} {Q : State → Prop} {cells slots : Nat} {cc : ByteArray} {ws : va_W} {L : List (Nat × Value)} {pc : Nat} {stk : List Value} (cx : gX p s m args meth c cc nL RX10 D tys A) {a : Nat} {fs : List Value} {v : Value} (q0 : Nat) (he : ws[q0]? = some (a, .inr (8, fs))) (hv : fs[3]? = some v) (hd : decode cc pc = .ok (.getfield 21, 3)) (kk : gW p l e R s m args below meth c D A nL Q cells slots ws L (pc + 3) (v :: stk)) : gW p l e R s m args below meth c D A nL Q cells slots ws L pc (.ref a :: stk) :=
  g_get cx (C := RX10) (T := TX10) (N := 4) inT10 rfl 3 (Nat.le_of_ble_eq_true rfl) q1_169 rfl q0 he hv hd kk
def F_X10_size (s_o : S10) : Option (Int32) := some ((s10_size s_o))
def w_X10_size (o : Nat → Nat) (cB cI cJ cZ : ClassId) (s_o : S10) : va_W := List.flatten [(gX10 o cB cI cJ cZ s_o)]
abbrev rm_X10_size : Room := { frames := 0, cells := 0, slots := 0, locals := 0 }
set_option maxHeartbeats 4000000 in
set_option maxRecDepth 100000 in
theorem c_X10_size (l : Launch) (D : gG) (cB cI cJ cZ : ClassId) (o : Nat → Nat) (s_o : S10) (r : Int32) (hf : F_X10_size s_o = some r) : gM l D (tyL cB cI cJ cZ) yX10_size cX10_size 1 (some .int) rm_X10_size [.ref (o 0)] (w_X10_size o cB cI cJ cZ s_o) (some (.int r)) (w_X10_size o cB cI cJ cZ s_o) := by
  refine met_of (by decide) (Nat.le_of_ble_eq_true rfl) ?_
  intro p e s m args below meth c A cx hr hA
  show gW p l e rm_X10_size s m args below meth c D A 1 _ 0 0 _ [(0, .ref (o 0))] 0 []
  rw [F_X10_size] at hf
  refine g_aln cx 0 dX10_size_0 rfl ?_
  refine fg_RX10_21 cx 0 rfl rfl dX10_size_1 ?_
  exact g_iret (ovf := fun (r : Int32) => (some (.int r))) (wf := fun (r : Int32) => (w_X10_size o cB cI cJ cZ s_o)) cx hA hr hf rfl rfl dX10_size_4
theorem dX10_isFull_0 : decode cX10_isFull 0 = .ok (.aload_n 0, 1) := by decide +kernel
theorem dX10_isFull_1 : decode cX10_isFull 1 = .ok (.getfield 21, 3) := by decide +kernel
theorem dX10_isFull_4 : decode cX10_isFull 4 = .ok (.bipush 16, 2) := by decide +kernel
theorem dX10_isFull_6 : decode cX10_isFull 6 = .ok (.if_icmp .lt 7, 3) := by decide +kernel
theorem dX10_isFull_9 : decode cX10_isFull 9 = .ok (.iconst 1, 1) := by decide +kernel
theorem dX10_isFull_10 : decode cX10_isFull 10 = .ok (.goto 4, 3) := by decide +kernel
theorem dX10_isFull_13 : decode cX10_isFull 13 = .ok (.iconst 0, 1) := by decide +kernel
theorem dX10_isFull_14 : decode cX10_isFull 14 = .ok (.ireturn, 1) := by decide +kernel


def F_X10_isFull (s_o : S10) : Option (Int32) := (if (s10_size s_o) < 16 then some (0) else some (1))
def w_X10_isFull (o : Nat → Nat) (cB cI cJ cZ : ClassId) (s_o : S10) : va_W := List.flatten [(gX10 o cB cI cJ cZ s_o)]
abbrev rm_X10_isFull : Room := { frames := 0, cells := 0, slots := 0, locals := 0 }
set_option maxHeartbeats 4000000 in
set_option maxRecDepth 100000 in
theorem c_X10_isFull (l : Launch) (D : gG) (cB cI cJ cZ : ClassId) (o : Nat → Nat) (s_o : S10) (r : Int32) (hf : F_X10_isFull s_o = some r) : gM l D (tyL cB cI cJ cZ) yX10_isFull cX10_isFull 1 (some .boolean) rm_X10_isFull [.ref (o 0)] (w_X10_isFull o cB cI cJ cZ s_o) (some (.int r)) (w_X10_isFull o cB cI cJ cZ s_o) := by
  refine met_of (by decide) (Nat.le_of_ble_eq_true rfl) ?_
  intro p e s m args below meth c A cx hr hA
  show gW p l e rm_X10_isFull s m args below meth c D A 1 _ 0 0 _ [(0, .ref (o 0))] 0 []
  rw [F_X10_isFull] at hf
  refine g_aln cx 0 dX10_isFull_0 rfl ?_
  refine fg_RX10_21 cx 0 rfl rfl dX10_isFull_1 ?_
  refine g_bp cx dX10_isFull_4 k_bp16 ?_
  refine g_ic_lt (tgt := 13) cx hf dX10_isFull_6 rfl (fun hf => ?_) (fun hf => ?_)
  · refine g_ic cx dX10_isFull_13 k_ic0 ?_
    exact g_zret (ovf := fun (r : Int32) => (some (.int r))) (wf := fun (r : Int32) => (w_X10_isFull o cB cI cJ cZ s_o)) cx hA hr rfl hf rfl rfl dX10_isFull_14
  · refine g_ic cx dX10_isFull_9 k_ic1 ?_
    refine g_goto (tgt := 14) cx dX10_isFull_10 rfl ?_
    exact g_zret (ovf := fun (r : Int32) => (some (.int r))) (wf := fun (r : Int32) => (w_X10_isFull o cB cI cJ cZ s_o)) cx hA hr rfl hf rfl rfl dX10_isFull_14
theorem dX10_has_0 : decode cX10_has 0 = .ok (.iload_n 1, 1) := by decide +kernel
theorem dX10_has_1 : decode cX10_has 1 = .ok (.ifCond .lt 15, 3) := by decide +kernel
theorem dX10_has_4 : decode cX10_has 4 = .ok (.iload_n 1, 1) := by decide +kernel
theorem dX10_has_5 : decode cX10_has 5 = .ok (.aload_n 0, 1) := by decide +kernel
theorem dX10_has_6 : decode cX10_has 6 = .ok (.getfield 21, 3) := by decide +kernel
theorem dX10_has_9 : decode cX10_has 9 = .ok (.if_icmp .ge 7, 3) := by decide +kernel
theorem dX10_has_12 : decode cX10_has 12 = .ok (.iconst 1, 1) := by decide +kernel
theorem dX10_has_13 : decode cX10_has 13 = .ok (.goto 4, 3) := by decide +kernel
theorem dX10_has_16 : decode cX10_has 16 = .ok (.iconst 0, 1) := by decide +kernel
theorem dX10_has_17 : decode cX10_has 17 = .ok (.ireturn, 1) := by decide +kernel


def F_X10_has (s_o : S10) (x1 : Int32) : Option (Int32) := (if x1 < 0 then some (0) else (if (s10_size s_o) ≤ x1 then some (0) else some (1)))
def w_X10_has (o : Nat → Nat) (cB cI cJ cZ : ClassId) (s_o : S10) : va_W := List.flatten [(gX10 o cB cI cJ cZ s_o)]
abbrev rm_X10_has : Room := { frames := 0, cells := 0, slots := 0, locals := 0 }
set_option maxHeartbeats 4000000 in
set_option maxRecDepth 100000 in
theorem c_X10_has (l : Launch) (D : gG) (cB cI cJ cZ : ClassId) (o : Nat → Nat) (s_o : S10) (x1 : Int32) (r : Int32) (hf : F_X10_has s_o x1 = some r) : gM l D (tyL cB cI cJ cZ) yX10_has cX10_has 2 (some .boolean) rm_X10_has [.ref (o 0), .int x1] (w_X10_has o cB cI cJ cZ s_o) (some (.int r)) (w_X10_has o cB cI cJ cZ s_o) := by
  refine met_of (by decide) (Nat.le_of_ble_eq_true rfl) ?_
  intro p e s m args below meth c A cx hr hA
  show gW p l e rm_X10_has s m args below meth c D A 2 _ 0 0 _ [(0, .ref (o 0)), (1, .int x1)] 0 []
  rw [F_X10_has] at hf
  refine g_iln cx 1 dX10_has_0 rfl ?_
  refine g_if_lt (tgt := 16) cx hf dX10_has_1 rfl (fun hf => ?_) (fun hf => ?_)
  · refine g_ic cx dX10_has_16 k_ic0 ?_
    exact g_zret (ovf := fun (r : Int32) => (some (.int r))) (wf := fun (r : Int32) => (w_X10_has o cB cI cJ cZ s_o)) cx hA hr rfl hf rfl rfl dX10_has_17
  · refine g_iln cx 1 dX10_has_4 rfl ?_
    refine g_aln cx 0 dX10_has_5 rfl ?_
    refine fg_RX10_21 cx 0 rfl rfl dX10_has_6 ?_
    refine g_ic_ge (tgt := 16) cx hf dX10_has_9 rfl (fun hf => ?_) (fun hf => ?_)
    · refine g_ic cx dX10_has_16 k_ic0 ?_
      exact g_zret (ovf := fun (r : Int32) => (some (.int r))) (wf := fun (r : Int32) => (w_X10_has o cB cI cJ cZ s_o)) cx hA hr rfl hf rfl rfl dX10_has_17
    · refine g_ic cx dX10_has_12 k_ic1 ?_
      refine g_goto (tgt := 17) cx dX10_has_13 rfl ?_
      exact g_zret (ovf := fun (r : Int32) => (some (.int r))) (wf := fun (r : Int32) => (w_X10_has o cB cI cJ cZ s_o)) cx hA hr rfl hf rfl rfl dX10_has_17
theorem dX10_wipe_0 : decode cX10_wipe 0 = .ok (.aload_n 0, 1) := by decide +kernel
theorem dX10_wipe_1 : decode cX10_wipe 1 = .ok (.iconst 0, 1) := by decide +kernel
theorem dX10_wipe_2 : decode cX10_wipe 2 = .ok (.putfield 21, 3) := by decide +kernel
theorem dX10_wipe_5 : decode cX10_wipe 5 = .ok (.return_, 1) := by decide +kernel

theorem fp_RX10_21 {p : Program} {l : Launch} {e : Env} {R : Room} {s : State} {m : MethodId} {args : Array Value} {below : List Frame} {meth : Method} {c : Code} {D : gG} {tys : List (ClassId × FieldType)} {A : Nat → Prop} {nL : Nat} {Q : State → Prop} {cells slots : Nat} {cc : ByteArray} {ws : va_W} {L : List (Nat × Value)} {pc : Nat} {stk : List Value} (cx : gX p s m args meth c cc nL RX10 D tys A) {a : Nat} {fs : List Value} {x : Int32} (q0 : Nat) (he : ws[q0]? = some (a, .inr (8, fs))) (hl : 3 < fs.length) {ws' : va_W} (hw : ws.set q0 (a, .inr (8, fs.set 3 (.int x))) = ws') (hd : decode cc pc = .ok (.putfield 21, 3)) (kk : gW p l e R s m args below meth c D A nL Q cells slots ws' L (pc + 3) stk) : gW p l e R s m args below meth c D A nL Q cells slots ws L pc (.int x :: .ref a :: stk) :=
  g_put cx (C := RX10) (T := TX10) (N := 4) (ty0 := tyX10) (ty := .int) inT10 tyX10_ok nmX10 rfl 3 (Nat.le_of_ble_eq_true rfl) q1_169 rfl rfl rfl rfl rfl q0 he hl hw hd kk
def F_X10_wipe (s_o : S10) : Option (S10) := nm (u10_size s_o 0) fun s_o_1 => some (s_o_1)
def w_X10_wipe (o : Nat → Nat) (cB cI cJ cZ : ClassId) (s_o : S10) : va_W := List.flatten [(gX10 o cB cI cJ cZ s_o)]
abbrev rm_X10_wipe : Room := { frames := 0, cells := 0, slots := 0, locals := 0 }
set_option maxHeartbeats 4000000 in
set_option maxRecDepth 100000 in
theorem c_X10_wipe (l : Launch) (D : gG) (cB cI cJ cZ : ClassId) (o : Nat → Nat) (s_o : S10) (r : S10) (hf : F_X10_wipe s_o = some r) : gM l D (tyL cB cI cJ cZ) yX10_wipe cX10_wipe 1 none rm_X10_wipe [.ref (o 0)] (w_X10_wipe o cB cI cJ cZ s_o) none (w_X10_wipe o cB cI cJ cZ r) := by
  refine met_of (by decide) (Nat.le_of_ble_eq_true rfl) ?_
  intro p e s m args below meth c A cx hr hA
  show gW p l e rm_X10_wipe s m args below meth c D A 1 _ 0 0 _ [(0, .ref (o 0))] 0 []
  rw [F_X10_wipe] at hf
  refine g_aln cx 0 dX10_wipe_0 rfl ?_
  refine g_ic cx dX10_wipe_1 k_ic0 ?_
  refine fp_RX10_21 cx 0 rfl (Nat.le_of_ble_eq_true rfl) (ws' := (w_X10_wipe o cB cI cJ cZ (u10_size s_o 0))) rfl dX10_wipe_2 ?_
  refine g_nm (w := fun s_o_1 => (w_X10_wipe o cB cI cJ cZ s_o_1)) hf (fun s_o_1 hf => ?_)
  exact g_vret (ovf := fun (r : S10) => none) (wf := fun (r : S10) => (w_X10_wipe o cB cI cJ cZ r)) cx hA hr hf rfl rfl dX10_wipe_5
theorem dX10_add_0 : decode cX10_add 0 = .ok (.aload_n 0, 1) := by decide +kernel
theorem dX10_add_1 : decode cX10_add 1 = .ok (.invokevirtual 25, 3) := by decide +kernel
theorem dX10_add_4 : decode cX10_add 4 = .ok (.ifCond .eq 4, 3) := by decide +kernel
theorem dX10_add_7 : decode cX10_add 7 = .ok (.return_, 1) := by decide +kernel
theorem dX10_add_8 : decode cX10_add 8 = .ok (.aload_n 0, 1) := by decide +kernel
theorem dX10_add_9 : decode cX10_add 9 = .ok (.getfield 9, 3) := by decide +kernel
theorem dX10_add_12 : decode cX10_add 12 = .ok (.aload_n 0, 1) := by decide +kernel
theorem dX10_add_13 : decode cX10_add 13 = .ok (.getfield 21, 3) := by decide +kernel
theorem dX10_add_16 : decode cX10_add 16 = .ok (.iload_n 1, 1) := by decide +kernel
theorem dX10_add_17 : decode cX10_add 17 = .ok (.invokestatic 29, 3) := by decide +kernel
theorem dX10_add_20 : decode cX10_add 20 = .ok (.aload_n 0, 1) := by decide +kernel
theorem dX10_add_21 : decode cX10_add 21 = .ok (.getfield 9, 3) := by decide +kernel
theorem dX10_add_24 : decode cX10_add 24 = .ok (.bipush 16, 2) := by decide +kernel
theorem dX10_add_26 : decode cX10_add 26 = .ok (.aload_n 0, 1) := by decide +kernel
theorem dX10_add_27 : decode cX10_add 27 = .ok (.getfield 21, 3) := by decide +kernel
theorem dX10_add_30 : decode cX10_add 30 = .ok (.iadd, 1) := by decide +kernel
theorem dX10_add_31 : decode cX10_add 31 = .ok (.iload_n 2, 1) := by decide +kernel
theorem dX10_add_32 : decode cX10_add 32 = .ok (.invokestatic 29, 3) := by decide +kernel
theorem dX10_add_35 : decode cX10_add 35 = .ok (.aload_n 0, 1) := by decide +kernel
theorem dX10_add_36 : decode cX10_add 36 = .ok (.getfield 15, 3) := by decide +kernel
theorem dX10_add_39 : decode cX10_add 39 = .ok (.aload_n 0, 1) := by decide +kernel
theorem dX10_add_40 : decode cX10_add 40 = .ok (.getfield 21, 3) := by decide +kernel
theorem dX10_add_43 : decode cX10_add 43 = .ok (.iload_n 3, 1) := by decide +kernel
theorem dX10_add_44 : decode cX10_add 44 = .ok (.invokestatic 29, 3) := by decide +kernel
theorem dX10_add_47 : decode cX10_add 47 = .ok (.aload_n 0, 1) := by decide +kernel
theorem dX10_add_48 : decode cX10_add 48 = .ok (.getfield 18, 3) := by decide +kernel
theorem dX10_add_51 : decode cX10_add 51 = .ok (.aload_n 0, 1) := by decide +kernel
theorem dX10_add_52 : decode cX10_add 52 = .ok (.getfield 21, 3) := by decide +kernel
theorem dX10_add_55 : decode cX10_add 55 = .ok (.iload 4, 2) := by decide +kernel
theorem dX10_add_57 : decode cX10_add 57 = .ok (.invokestatic 29, 3) := by decide +kernel
theorem dX10_add_60 : decode cX10_add 60 = .ok (.aload_n 0, 1) := by decide +kernel
theorem dX10_add_61 : decode cX10_add 61 = .ok (.dup, 1) := by decide +kernel
theorem dX10_add_62 : decode cX10_add 62 = .ok (.getfield 21, 3) := by decide +kernel
theorem dX10_add_65 : decode cX10_add 65 = .ok (.iconst 1, 1) := by decide +kernel
theorem dX10_add_66 : decode cX10_add 66 = .ok (.iadd, 1) := by decide +kernel
theorem dX10_add_67 : decode cX10_add 67 = .ok (.putfield 21, 3) := by decide +kernel
theorem dX10_add_70 : decode cX10_add 70 = .ok (.return_, 1) := by decide +kernel
theorem q1_10 : Cond.initialized RX10 ∈ TT := tq1 10 rfl rfl
theorem q1_166 : Cond.fieldLink RX10 9 "RhymeLaw$Words" "sounds" "[I" ∈ TT := tq1 166 rfl rfl
theorem q1_167 : Cond.fieldLink RX10 15 "RhymeLaw$Words" "meanings" "[I" ∈ TT := tq1 167 rfl rfl
theorem q1_168 : Cond.fieldLink RX10 18 "RhymeLaw$Words" "syllables" "[I" ∈ TT := tq1 168 rfl rfl
theorem q2_155 : Cond.instanceMethod yX10_isFull ∈ TT := tq2 155 rfl rfl
theorem q2_156 : Cond.selects RX10 yX10_isFull yX10_isFull ∈ TT := tq2 156 rfl rfl
theorem q2_157 : Cond.code yX10_isFull cX10_isFull 1 (some .boolean) ∈ TT := tq2 157 rfl rfl
theorem q2_176 : Cond.methodLink RX10 25 yX10_isFull ∈ TT := tq2 176 rfl rfl
theorem q2_177 : Cond.methodLink RX10 29 yX6_set ∈ TT := tq2 177 rfl rfl
theorem lk_RX10_25 : vlk RX10 25 yX10_isFull cX10_isFull 1 (some .boolean) 0 := ⟨List.forall_mem_cons.mpr ⟨q2_176, List.forall_mem_cons.mpr ⟨q2_155, List.forall_mem_cons.mpr ⟨q2_156, List.forall_mem_cons.mpr ⟨q1_10, fun _ h => absurd h List.not_mem_nil⟩⟩⟩⟩, q2_157, by decide, by decide, by decide +kernel⟩
theorem fg_RX10_9 {p : Program} {l : Launch} {e : Env} {R : Room} {s : State} {m : MethodId} {args : Array Value} {below : List Frame} {meth : Method} {c : Code} {D : gG} {tys : List (ClassId × FieldType)} {A : Nat → Prop} {nL : Nat} {Q : State → Prop} {cells slots : Nat} {cc : ByteArray} {ws : va_W} {L : List (Nat × Value)} {pc : Nat} {stk : List Value} (cx : gX p s m args meth c cc nL RX10 D tys A) {a : Nat} {fs : List Value} {v : Value} (q0 : Nat) (he : ws[q0]? = some (a, .inr (8, fs))) (hv : fs[0]? = some v) (hd : decode cc pc = .ok (.getfield 9, 3)) (kk : gW p l e R s m args below meth c D A nL Q cells slots ws L (pc + 3) (v :: stk)) : gW p l e R s m args below meth c D A nL Q cells slots ws L pc (.ref a :: stk) :=
  g_get cx (C := RX10) (T := TX10) (N := 4) inT10 rfl 0 (Nat.le_of_ble_eq_true rfl) q1_166 rfl q0 he hv hd kk
theorem lk_RX10_29 : slk RX10 29 yX6_set cX6_set 3 none 3 := ⟨List.forall_mem_cons.mpr ⟨q2_177, List.forall_mem_cons.mpr ⟨q2_178, List.forall_mem_cons.mpr ⟨q1_19, fun _ h => absurd h List.not_mem_nil⟩⟩⟩, q2_179, by decide, by decide, by decide +kernel⟩
theorem fg_RX10_15 {p : Program} {l : Launch} {e : Env} {R : Room} {s : State} {m : MethodId} {args : Array Value} {below : List Frame} {meth : Method} {c : Code} {D : gG} {tys : List (ClassId × FieldType)} {A : Nat → Prop} {nL : Nat} {Q : State → Prop} {cells slots : Nat} {cc : ByteArray} {ws : va_W} {L : List (Nat × Value)} {pc : Nat} {stk : List Value} (cx : gX p s m args meth c cc nL RX10 D tys A) {a : Nat} {fs : List Value} {v : Value} (q0 : Nat) (he : ws[q0]? = some (a, .inr (8, fs))) (hv : fs[1]? = some v) (hd : decode cc pc = .ok (.getfield 15, 3)) (kk : gW p l e R s m args below meth c D A nL Q cells slots ws L (pc + 3) (v :: stk)) : gW p l e R s m args below meth c D A nL Q cells slots ws L pc (.ref a :: stk) :=
  g_get cx (C := RX10) (T := TX10) (N := 4) inT10 rfl 1 (Nat.le_of_ble_eq_true rfl) q1_167 rfl q0 he hv hd kk
theorem fg_RX10_18 {p : Program} {l : Launch} {e : Env} {R : Room} {s : State} {m : MethodId} {args : Array Value} {below : List Frame} {meth : Method} {c : Code} {D : gG} {tys : List (ClassId × FieldType)} {A : Nat → Prop} {nL : Nat} {Q : State → Prop} {cells slots : Nat} {cc : ByteArray} {ws : va_W} {L : List (Nat × Value)} {pc : Nat} {stk : List Value} (cx : gX p s m args meth c cc nL RX10 D tys A) {a : Nat} {fs : List Value} {v : Value} (q0 : Nat) (he : ws[q0]? = some (a, .inr (8, fs))) (hv : fs[2]? = some v) (hd : decode cc pc = .ok (.getfield 18, 3)) (kk : gW p l e R s m args below meth c D A nL Q cells slots ws L (pc + 3) (v :: stk)) : gW p l e R s m args below meth c D A nL Q cells slots ws L pc (.ref a :: stk) :=
  g_get cx (C := RX10) (T := TX10) (N := 4) inT10 rfl 2 (Nat.le_of_ble_eq_true rfl) q1_168 rfl q0 he hv hd kk
def F_X10_add (s_o : S10) (x1 : Int32) (x2 : Int32) (x3 : Int32) (x4 : Int32) : Option (S10) := (F_X10_isFull s_o).bind fun q_1 => (if q_1 = 0 then (F_X6_set 48 (s10_sounds s_o) (s10_size s_o) x1).bind fun q_2 => (F_X6_set 48 (s10_sounds (u10_sounds s_o q_2)) (16 + (s10_size (u10_sounds s_o q_2))) x2).bind fun q_3 => (F_X6_set 16 (s10_meanings (u10_sounds (u10_sounds s_o q_2) q_3)) (s10_size (u10_sounds (u10_sounds s_o q_2) q_3)) x3).bind fun q_4 => (F_X6_set 16 (s10_syllables (u10_meanings (u10_sounds (u10_sounds s_o q_2) q_3) q_4)) (s10_size (u10_meanings (u10_sounds (u10_sounds s_o q_2) q_3) q_4)) x4).bind fun q_5 => nm (u10_size (u10_syllables (u10_meanings (u10_sounds (u10_sounds s_o q_2) q_3) q_4) q_5) ((s10_size (u10_syllables (u10_meanings (u10_sounds (u10_sounds s_o q_2) q_3) q_4) q_5)) + 1)) fun s_o_6 => some (s_o_6) else some (s_o))
def w_X10_add (o : Nat → Nat) (cB cI cJ cZ : ClassId) (s_o : S10) : va_W := List.flatten [(gX10 o cB cI cJ cZ s_o)]
abbrev rm_X10_add : Room := { frames := 1, cells := 0, slots := 0, locals := 22 }
set_option maxHeartbeats 4000000 in
set_option maxRecDepth 100000 in
theorem c_X10_add (l : Launch) (D : gG) (cB cI cJ cZ : ClassId) (o : Nat → Nat) (s_o : S10) (x1 : Int32) (x2 : Int32) (x3 : Int32) (x4 : Int32) (r : S10) (hf : F_X10_add s_o x1 x2 x3 x4 = some r) : gM l D (tyL cB cI cJ cZ) yX10_add cX10_add 5 none rm_X10_add [.ref (o 0), .int x1, .int x2, .int x3, .int x4] (w_X10_add o cB cI cJ cZ s_o) none (w_X10_add o cB cI cJ cZ r) := by
  refine met_of (by decide) (Nat.le_of_ble_eq_true rfl) ?_
  intro p e s m args below meth c A cx hr hA
  show gW p l e rm_X10_add s m args below meth c D A 5 _ 0 0 _ [(0, .ref (o 0)), (1, .int x1), (2, .int x2), (3, .int x3), (4, .int x4)] 0 []
  rw [F_X10_add] at hf
  refine g_aln cx 0 dX10_add_0 rfl ?_
  refine ob hf (fun q_1 hq_1 hf => ?_)
  refine g_callVGiR cx lk_RX10_25 (c_X10_isFull l D cB cI cJ cZ o s_o q_1 hq_1) rfl [0] rfl rfl (ci := 8) (q1 := 0) rfl rfl rfl (Nat.le_of_ble_eq_true rfl) ⟨rfl, rfl, Nat.le_of_ble_eq_true rfl, Nat.le_of_ble_eq_true rfl⟩ dX10_add_1 ?_
  refine g_if_eq (tgt := 8) cx hf dX10_add_4 rfl (fun hf => ?_) (fun hf => ?_)
  · refine g_aln cx 0 dX10_add_8 rfl ?_
    refine fg_RX10_9 cx 0 rfl rfl dX10_add_9 ?_
    refine g_aln cx 0 dX10_add_12 rfl ?_
    refine fg_RX10_21 cx 0 rfl rfl dX10_add_13 ?_
    refine g_iln cx 1 dX10_add_16 rfl ?_
    refine ob hf (fun q_2 hq_2 hf => ?_)
    refine g_callSv cx lk_RX10_29 (c_X6_set l D cB cI cJ cZ (o 1) 48 (s10_sounds s_o) (s10_size s_o) x1 q_2 hq_2) rfl [1] rfl rfl (ws' := (w_X10_add o cB cI cJ cZ (u10_sounds s_o q_2))) rfl rfl rfl (Nat.le_of_ble_eq_true rfl) ⟨rfl, rfl, Nat.le_of_ble_eq_true rfl, Nat.le_of_ble_eq_true rfl⟩ dX10_add_17 ?_
    refine g_aln cx 0 dX10_add_20 rfl ?_
    refine fg_RX10_9 cx 0 rfl rfl dX10_add_21 ?_
    refine g_bp cx dX10_add_24 k_bp16 ?_
    refine g_aln cx 0 dX10_add_26 rfl ?_
    refine fg_RX10_21 cx 0 rfl rfl dX10_add_27 ?_
    refine g_iadd cx dX10_add_30 ?_
    refine g_iln cx 2 dX10_add_31 rfl ?_
    refine ob hf (fun q_3 hq_3 hf => ?_)
    refine g_callSv cx lk_RX10_29 (c_X6_set l D cB cI cJ cZ (o 1) 48 (s10_sounds (u10_sounds s_o q_2)) (16 + (s10_size (u10_sounds s_o q_2))) x2 q_3 hq_3) rfl [1] rfl rfl (ws' := (w_X10_add o cB cI cJ cZ (u10_sounds (u10_sounds s_o q_2) q_3))) rfl rfl rfl (Nat.le_of_ble_eq_true rfl) ⟨rfl, rfl, Nat.le_of_ble_eq_true rfl, Nat.le_of_ble_eq_true rfl⟩ dX10_add_32 ?_
    refine g_aln cx 0 dX10_add_35 rfl ?_
    refine fg_RX10_15 cx 0 rfl rfl dX10_add_36 ?_
    refine g_aln cx 0 dX10_add_39 rfl ?_
    refine fg_RX10_21 cx 0 rfl rfl dX10_add_40 ?_
    refine g_iln cx 3 dX10_add_43 rfl ?_
    refine ob hf (fun q_4 hq_4 hf => ?_)
    refine g_callSv cx lk_RX10_29 (c_X6_set l D cB cI cJ cZ (o 2) 16 (s10_meanings (u10_sounds (u10_sounds s_o q_2) q_3)) (s10_size (u10_sounds (u10_sounds s_o q_2) q_3)) x3 q_4 hq_4) rfl [2] rfl rfl (ws' := (w_X10_add o cB cI cJ cZ (u10_meanings (u10_sounds (u10_sounds s_o q_2) q_3) q_4))) rfl rfl rfl (Nat.le_of_ble_eq_true rfl) ⟨rfl, rfl, Nat.le_of_ble_eq_true rfl, Nat.le_of_ble_eq_true rfl⟩ dX10_add_44 ?_
    refine g_aln cx 0 dX10_add_47 rfl ?_
    refine fg_RX10_18 cx 0 rfl rfl dX10_add_48 ?_
    refine g_aln cx 0 dX10_add_51 rfl ?_
    refine fg_RX10_21 cx 0 rfl rfl dX10_add_52 ?_
    refine g_il cx 4 dX10_add_55 rfl ?_
    refine ob hf (fun q_5 hq_5 hf => ?_)
    refine g_callSv cx lk_RX10_29 (c_X6_set l D cB cI cJ cZ (o 3) 16 (s10_syllables (u10_meanings (u10_sounds (u10_sounds s_o q_2) q_3) q_4)) (s10_size (u10_meanings (u10_sounds (u10_sounds s_o q_2) q_3) q_4)) x4 q_5 hq_5) rfl [3] rfl rfl (ws' := (w_X10_add o cB cI cJ cZ (u10_syllables (u10_meanings (u10_sounds (u10_sounds s_o q_2) q_3) q_4) q_5))) rfl rfl rfl (Nat.le_of_ble_eq_true rfl) ⟨rfl, rfl, Nat.le_of_ble_eq_true rfl, Nat.le_of_ble_eq_true rfl⟩ dX10_add_57 ?_
    refine g_aln cx 0 dX10_add_60 rfl ?_
    refine g_dup cx dX10_add_61 rfl ?_
    refine fg_RX10_21 cx 0 rfl rfl dX10_add_62 ?_
    refine g_ic cx dX10_add_65 k_ic1 ?_
    refine g_iadd cx dX10_add_66 ?_
    refine fp_RX10_21 cx 0 rfl (Nat.le_of_ble_eq_true rfl) (ws' := (w_X10_add o cB cI cJ cZ (u10_size (u10_syllables (u10_meanings (u10_sounds (u10_sounds s_o q_2) q_3) q_4) q_5) ((s10_size (u10_syllables (u10_meanings (u10_sounds (u10_sounds s_o q_2) q_3) q_4) q_5)) + 1)))) rfl dX10_add_67 ?_
    refine g_nm (w := fun s_o_6 => (w_X10_add o cB cI cJ cZ s_o_6)) hf (fun s_o_6 hf => ?_)
    exact g_vret (ovf := fun (r : S10) => none) (wf := fun (r : S10) => (w_X10_add o cB cI cJ cZ r)) cx hA hr hf rfl rfl dX10_add_70
  · exact g_vret (ovf := fun (r : S10) => none) (wf := fun (r : S10) => (w_X10_add o cB cI cJ cZ r)) cx hA hr hf rfl rfl dX10_add_7
theorem dX10_sound_0 : decode cX10_sound 0 = .ok (.aload_n 0, 1) := by decide +kernel
theorem dX10_sound_1 : decode cX10_sound 1 = .ok (.getfield 9, 3) := by decide +kernel
theorem dX10_sound_4 : decode cX10_sound 4 = .ok (.iload_n 1, 1) := by decide +kernel
theorem dX10_sound_5 : decode cX10_sound 5 = .ok (.bipush 16, 2) := by decide +kernel
theorem dX10_sound_7 : decode cX10_sound 7 = .ok (.imul, 1) := by decide +kernel
theorem dX10_sound_8 : decode cX10_sound 8 = .ok (.iload_n 2, 1) := by decide +kernel
theorem dX10_sound_9 : decode cX10_sound 9 = .ok (.iadd, 1) := by decide +kernel
theorem dX10_sound_10 : decode cX10_sound 10 = .ok (.invokestatic 35, 3) := by decide +kernel
theorem dX10_sound_13 : decode cX10_sound 13 = .ok (.ireturn, 1) := by decide +kernel
theorem q3_35 : Cond.methodLink RX10 35 yX6_at ∈ TT := tq3 35 rfl rfl
theorem lk_RX10_35 : slk RX10 35 yX6_at cX6_at 2 (some .int) 2 := ⟨List.forall_mem_cons.mpr ⟨q3_35, List.forall_mem_cons.mpr ⟨q2_207, List.forall_mem_cons.mpr ⟨q1_19, fun _ h => absurd h List.not_mem_nil⟩⟩⟩, q2_208, by decide, by decide, by decide +kernel⟩
def F_X10_sound (s_o : S10) (x1 : Int32) (x2 : Int32) : Option (Int32) := (F_X6_at 48 (s10_sounds s_o) ((x1 * 16) + x2)).bind fun q_1 => some (q_1)
def w_X10_sound (o : Nat → Nat) (cB cI cJ cZ : ClassId) (s_o : S10) : va_W := List.flatten [(gX10 o cB cI cJ cZ s_o)]
abbrev rm_X10_sound : Room := { frames := 1, cells := 0, slots := 0, locals := 21 }
set_option maxHeartbeats 4000000 in
set_option maxRecDepth 100000 in
theorem c_X10_sound (l : Launch) (D : gG) (cB cI cJ cZ : ClassId) (o : Nat → Nat) (s_o : S10) (x1 : Int32) (x2 : Int32) (r : Int32) (hf : F_X10_sound s_o x1 x2 = some r) : gM l D (tyL cB cI cJ cZ) yX10_sound cX10_sound 3 (some .int) rm_X10_sound [.ref (o 0), .int x1, .int x2] (w_X10_sound o cB cI cJ cZ s_o) (some (.int r)) (w_X10_sound o cB cI cJ cZ s_o) := by
  refine met_of (by decide) (Nat.le_of_ble_eq_true rfl) ?_
  intro p e s m args below meth c A cx hr hA
  show gW p l e rm_X10_sound s m args below meth c D A 3 _ 0 0 _ [(0, .ref (o 0)), (1, .int x1), (2, .int x2)] 0 []
  rw [F_X10_sound] at hf
  refine g_aln cx 0 dX10_sound_0 rfl ?_
  refine fg_RX10_9 cx 0 rfl rfl dX10_sound_1 ?_
  refine g_iln cx 1 dX10_sound_4 rfl ?_
  refine g_bp cx dX10_sound_5 k_bp16 ?_
  refine g_imul cx dX10_sound_7 ?_
  refine g_iln cx 2 dX10_sound_8 rfl ?_
  refine g_iadd cx dX10_sound_9 ?_
  refine ob hf (fun q_1 hq_1 hf => ?_)
  refine g_callSiR cx lk_RX10_35 (c_X6_at l D cB cI cJ cZ (o 1) 48 (s10_sounds s_o) ((x1 * 16) + x2) q_1 hq_1) rfl [1] rfl rfl rfl (Nat.le_of_ble_eq_true rfl) ⟨rfl, rfl, Nat.le_of_ble_eq_true rfl, Nat.le_of_ble_eq_true rfl⟩ dX10_sound_10 ?_
  exact g_iret (ovf := fun (r : Int32) => (some (.int r))) (wf := fun (r : Int32) => (w_X10_sound o cB cI cJ cZ s_o)) cx hA hr hf rfl rfl dX10_sound_13
theorem dX10_meaning_0 : decode cX10_meaning 0 = .ok (.aload_n 0, 1) := by decide +kernel
theorem dX10_meaning_1 : decode cX10_meaning 1 = .ok (.getfield 15, 3) := by decide +kernel
theorem dX10_meaning_4 : decode cX10_meaning 4 = .ok (.iload_n 1, 1) := by decide +kernel
theorem dX10_meaning_5 : decode cX10_meaning 5 = .ok (.invokestatic 35, 3) := by decide +kernel
theorem dX10_meaning_8 : decode cX10_meaning 8 = .ok (.ireturn, 1) := by decide +kernel


def F_X10_meaning (s_o : S10) (x1 : Int32) : Option (Int32) := (F_X6_at 16 (s10_meanings s_o) x1).bind fun q_1 => some (q_1)
def w_X10_meaning (o : Nat → Nat) (cB cI cJ cZ : ClassId) (s_o : S10) : va_W := List.flatten [(gX10 o cB cI cJ cZ s_o)]
abbrev rm_X10_meaning : Room := { frames := 1, cells := 0, slots := 0, locals := 21 }
set_option maxHeartbeats 4000000 in
set_option maxRecDepth 100000 in
theorem c_X10_meaning (l : Launch) (D : gG) (cB cI cJ cZ : ClassId) (o : Nat → Nat) (s_o : S10) (x1 : Int32) (r : Int32) (hf : F_X10_meaning s_o x1 = some r) : gM l D (tyL cB cI cJ cZ) yX10_meaning cX10_meaning 2 (some .int) rm_X10_meaning [.ref (o 0), .int x1] (w_X10_meaning o cB cI cJ cZ s_o) (some (.int r)) (w_X10_meaning o cB cI cJ cZ s_o) := by
  refine met_of (by decide) (Nat.le_of_ble_eq_true rfl) ?_
  intro p e s m args below meth c A cx hr hA
  show gW p l e rm_X10_meaning s m args below meth c D A 2 _ 0 0 _ [(0, .ref (o 0)), (1, .int x1)] 0 []
  rw [F_X10_meaning] at hf
  refine g_aln cx 0 dX10_meaning_0 rfl ?_
  refine fg_RX10_15 cx 0 rfl rfl dX10_meaning_1 ?_
  refine g_iln cx 1 dX10_meaning_4 rfl ?_
  refine ob hf (fun q_1 hq_1 hf => ?_)
  refine g_callSiR cx lk_RX10_35 (c_X6_at l D cB cI cJ cZ (o 2) 16 (s10_meanings s_o) x1 q_1 hq_1) rfl [2] rfl rfl rfl (Nat.le_of_ble_eq_true rfl) ⟨rfl, rfl, Nat.le_of_ble_eq_true rfl, Nat.le_of_ble_eq_true rfl⟩ dX10_meaning_5 ?_
  exact g_iret (ovf := fun (r : Int32) => (some (.int r))) (wf := fun (r : Int32) => (w_X10_meaning o cB cI cJ cZ s_o)) cx hA hr hf rfl rfl dX10_meaning_8
theorem dX10_syllables_0 : decode cX10_syllables 0 = .ok (.aload_n 0, 1) := by decide +kernel
theorem dX10_syllables_1 : decode cX10_syllables 1 = .ok (.getfield 18, 3) := by decide +kernel
theorem dX10_syllables_4 : decode cX10_syllables 4 = .ok (.iload_n 1, 1) := by decide +kernel
theorem dX10_syllables_5 : decode cX10_syllables 5 = .ok (.invokestatic 35, 3) := by decide +kernel
theorem dX10_syllables_8 : decode cX10_syllables 8 = .ok (.ireturn, 1) := by decide +kernel


def F_X10_syllables (s_o : S10) (x1 : Int32) : Option (Int32) := (F_X6_at 16 (s10_syllables s_o) x1).bind fun q_1 => some (q_1)
def w_X10_syllables (o : Nat → Nat) (cB cI cJ cZ : ClassId) (s_o : S10) : va_W := List.flatten [(gX10 o cB cI cJ cZ s_o)]
abbrev rm_X10_syllables : Room := { frames := 1, cells := 0, slots := 0, locals := 21 }
set_option maxHeartbeats 4000000 in
set_option maxRecDepth 100000 in
theorem c_X10_syllables (l : Launch) (D : gG) (cB cI cJ cZ : ClassId) (o : Nat → Nat) (s_o : S10) (x1 : Int32) (r : Int32) (hf : F_X10_syllables s_o x1 = some r) : gM l D (tyL cB cI cJ cZ) yX10_syllables cX10_syllables 2 (some .int) rm_X10_syllables [.ref (o 0), .int x1] (w_X10_syllables o cB cI cJ cZ s_o) (some (.int r)) (w_X10_syllables o cB cI cJ cZ s_o) := by
  refine met_of (by decide) (Nat.le_of_ble_eq_true rfl) ?_
  intro p e s m args below meth c A cx hr hA
  show gW p l e rm_X10_syllables s m args below meth c D A 2 _ 0 0 _ [(0, .ref (o 0)), (1, .int x1)] 0 []
  rw [F_X10_syllables] at hf
  refine g_aln cx 0 dX10_syllables_0 rfl ?_
  refine fg_RX10_18 cx 0 rfl rfl dX10_syllables_1 ?_
  refine g_iln cx 1 dX10_syllables_4 rfl ?_
  refine ob hf (fun q_1 hq_1 hf => ?_)
  refine g_callSiR cx lk_RX10_35 (c_X6_at l D cB cI cJ cZ (o 3) 16 (s10_syllables s_o) x1 q_1 hq_1) rfl [3] rfl rfl rfl (Nat.le_of_ble_eq_true rfl) ⟨rfl, rfl, Nat.le_of_ble_eq_true rfl, Nat.le_of_ble_eq_true rfl⟩ dX10_syllables_5 ?_
  exact g_iret (ovf := fun (r : Int32) => (some (.int r))) (wf := fun (r : Int32) => (w_X10_syllables o cB cI cJ cZ s_o)) cx hA hr hf rfl rfl dX10_syllables_8
theorem dX10_rhyme_0 : decode cX10_rhyme 0 = .ok (.iload_n 2, 1) := by decide +kernel
theorem dX10_rhyme_1 : decode cX10_rhyme 1 = .ok (.iload_n 3, 1) := by decide +kernel
theorem dX10_rhyme_2 : decode cX10_rhyme 2 = .ok (.if_icmp .eq 22, 3) := by decide +kernel
theorem dX10_rhyme_5 : decode cX10_rhyme 5 = .ok (.aload_n 0, 1) := by decide +kernel
theorem dX10_rhyme_6 : decode cX10_rhyme 6 = .ok (.iload_n 1, 1) := by decide +kernel
theorem dX10_rhyme_7 : decode cX10_rhyme 7 = .ok (.iload_n 2, 1) := by decide +kernel
theorem dX10_rhyme_8 : decode cX10_rhyme 8 = .ok (.invokevirtual 39, 3) := by decide +kernel
theorem dX10_rhyme_11 : decode cX10_rhyme 11 = .ok (.aload_n 0, 1) := by decide +kernel
theorem dX10_rhyme_12 : decode cX10_rhyme 12 = .ok (.iload_n 1, 1) := by decide +kernel
theorem dX10_rhyme_13 : decode cX10_rhyme 13 = .ok (.iload_n 3, 1) := by decide +kernel
theorem dX10_rhyme_14 : decode cX10_rhyme 14 = .ok (.invokevirtual 39, 3) := by decide +kernel
theorem dX10_rhyme_17 : decode cX10_rhyme 17 = .ok (.if_icmp .ne 7, 3) := by decide +kernel
theorem dX10_rhyme_20 : decode cX10_rhyme 20 = .ok (.iconst 1, 1) := by decide +kernel
theorem dX10_rhyme_21 : decode cX10_rhyme 21 = .ok (.goto 4, 3) := by decide +kernel
theorem dX10_rhyme_24 : decode cX10_rhyme 24 = .ok (.iconst 0, 1) := by decide +kernel
theorem dX10_rhyme_25 : decode cX10_rhyme 25 = .ok (.ireturn, 1) := by decide +kernel
theorem q3_32 : Cond.instanceMethod yX10_sound ∈ TT := tq3 32 rfl rfl
theorem q3_33 : Cond.selects RX10 yX10_sound yX10_sound ∈ TT := tq3 33 rfl rfl
theorem q3_34 : Cond.code yX10_sound cX10_sound 3 (some .int) ∈ TT := tq3 34 rfl rfl
theorem q3_139 : Cond.methodLink RX10 39 yX10_sound ∈ TT := tq3 139 rfl rfl
theorem lk_RX10_39 : vlk RX10 39 yX10_sound cX10_sound 3 (some .int) 2 := ⟨List.forall_mem_cons.mpr ⟨q3_139, List.forall_mem_cons.mpr ⟨q3_32, List.forall_mem_cons.mpr ⟨q3_33, List.forall_mem_cons.mpr ⟨q1_10, fun _ h => absurd h List.not_mem_nil⟩⟩⟩⟩, q3_34, by decide, by decide, by decide +kernel⟩
def F_X10_rhyme (s_o : S10) (x1 : Int32) (x2 : Int32) (x3 : Int32) : Option (Int32) := (if x2 = x3 then some (0) else (F_X10_sound s_o x1 x2).bind fun q_1 => (F_X10_sound s_o x1 x3).bind fun q_2 => (if q_1 = q_2 then some (1) else some (0)))
def w_X10_rhyme (o : Nat → Nat) (cB cI cJ cZ : ClassId) (s_o : S10) : va_W := List.flatten [(gX10 o cB cI cJ cZ s_o)]
abbrev rm_X10_rhyme : Room := { frames := 2, cells := 0, slots := 0, locals := 43 }
set_option maxHeartbeats 4000000 in
set_option maxRecDepth 100000 in
theorem c_X10_rhyme (l : Launch) (D : gG) (cB cI cJ cZ : ClassId) (o : Nat → Nat) (s_o : S10) (x1 : Int32) (x2 : Int32) (x3 : Int32) (r : Int32) (hf : F_X10_rhyme s_o x1 x2 x3 = some r) : gM l D (tyL cB cI cJ cZ) yX10_rhyme cX10_rhyme 4 (some .boolean) rm_X10_rhyme [.ref (o 0), .int x1, .int x2, .int x3] (w_X10_rhyme o cB cI cJ cZ s_o) (some (.int r)) (w_X10_rhyme o cB cI cJ cZ s_o) := by
  refine met_of (by decide) (Nat.le_of_ble_eq_true rfl) ?_
  intro p e s m args below meth c A cx hr hA
  show gW p l e rm_X10_rhyme s m args below meth c D A 4 _ 0 0 _ [(0, .ref (o 0)), (1, .int x1), (2, .int x2), (3, .int x3)] 0 []
  rw [F_X10_rhyme] at hf
  refine g_iln cx 2 dX10_rhyme_0 rfl ?_
  refine g_iln cx 3 dX10_rhyme_1 rfl ?_
  refine g_ic_eq (tgt := 24) cx hf dX10_rhyme_2 rfl (fun hf => ?_) (fun hf => ?_)
  · refine g_ic cx dX10_rhyme_24 k_ic0 ?_
    exact g_zret (ovf := fun (r : Int32) => (some (.int r))) (wf := fun (r : Int32) => (w_X10_rhyme o cB cI cJ cZ s_o)) cx hA hr rfl hf rfl rfl dX10_rhyme_25
  · refine g_aln cx 0 dX10_rhyme_5 rfl ?_
    refine g_iln cx 1 dX10_rhyme_6 rfl ?_
    refine g_iln cx 2 dX10_rhyme_7 rfl ?_
    refine ob hf (fun q_1 hq_1 hf => ?_)
    refine g_callVGiR cx lk_RX10_39 (c_X10_sound l D cB cI cJ cZ o s_o x1 x2 q_1 hq_1) rfl [0] rfl rfl (ci := 8) (q1 := 0) rfl rfl rfl (Nat.le_of_ble_eq_true rfl) ⟨rfl, rfl, Nat.le_of_ble_eq_true rfl, Nat.le_of_ble_eq_true rfl⟩ dX10_rhyme_8 ?_
    refine g_aln cx 0 dX10_rhyme_11 rfl ?_
    refine g_iln cx 1 dX10_rhyme_12 rfl ?_
    refine g_iln cx 3 dX10_rhyme_13 rfl ?_
    refine ob hf (fun q_2 hq_2 hf => ?_)
    refine g_callVGiR cx lk_RX10_39 (c_X10_sound l D cB cI cJ cZ o s_o x1 x3 q_2 hq_2) rfl [0] rfl rfl (ci := 8) (q1 := 0) rfl rfl rfl (Nat.le_of_ble_eq_true rfl) ⟨rfl, rfl, Nat.le_of_ble_eq_true rfl, Nat.le_of_ble_eq_true rfl⟩ dX10_rhyme_14 ?_
    refine g_ic_ne (tgt := 24) cx hf dX10_rhyme_17 rfl (fun hf => ?_) (fun hf => ?_)
    · refine g_ic cx dX10_rhyme_24 k_ic0 ?_
      exact g_zret (ovf := fun (r : Int32) => (some (.int r))) (wf := fun (r : Int32) => (w_X10_rhyme o cB cI cJ cZ s_o)) cx hA hr rfl hf rfl rfl dX10_rhyme_25
    · refine g_ic cx dX10_rhyme_20 k_ic1 ?_
      refine g_goto (tgt := 25) cx dX10_rhyme_21 rfl ?_
      exact g_zret (ovf := fun (r : Int32) => (some (.int r))) (wf := fun (r : Int32) => (w_X10_rhyme o cB cI cJ cZ s_o)) cx hA hr rfl hf rfl rfl dX10_rhyme_25
theorem dX10_mix_0 : decode cX10_mix 0 = .ok (.iconst 0, 1) := by decide +kernel
theorem dX10_mix_1 : decode cX10_mix 1 = .ok (.istore_n 2, 1) := by decide +kernel
theorem dX10_mix_2 : decode cX10_mix 2 = .ok (.iload_n 2, 1) := by decide +kernel
theorem dX10_mix_3 : decode cX10_mix 3 = .ok (.aload_n 0, 1) := by decide +kernel
theorem dX10_mix_4 : decode cX10_mix 4 = .ok (.getfield 21, 3) := by decide +kernel
theorem dX10_mix_7 : decode cX10_mix 7 = .ok (.if_icmp .ge 35, 3) := by decide +kernel
theorem dX10_mix_10 : decode cX10_mix 10 = .ok (.aload_n 0, 1) := by decide +kernel
theorem dX10_mix_11 : decode cX10_mix 11 = .ok (.getfield 9, 3) := by decide +kernel
theorem dX10_mix_14 : decode cX10_mix 14 = .ok (.bipush 32, 2) := by decide +kernel
theorem dX10_mix_16 : decode cX10_mix 16 = .ok (.iload_n 2, 1) := by decide +kernel
theorem dX10_mix_17 : decode cX10_mix 17 = .ok (.iadd, 1) := by decide +kernel
theorem dX10_mix_18 : decode cX10_mix 18 = .ok (.aload_n 0, 1) := by decide +kernel
theorem dX10_mix_19 : decode cX10_mix 19 = .ok (.iload_n 2, 1) := by decide +kernel
theorem dX10_mix_20 : decode cX10_mix 20 = .ok (.iload_n 1, 1) := by decide +kernel
theorem dX10_mix_21 : decode cX10_mix 21 = .ok (.if_icmp .ne 7, 3) := by decide +kernel
theorem dX10_mix_24 : decode cX10_mix 24 = .ok (.iconst 0, 1) := by decide +kernel
theorem dX10_mix_25 : decode cX10_mix 25 = .ok (.goto 4, 3) := by decide +kernel
theorem dX10_mix_28 : decode cX10_mix 28 = .ok (.iconst 1, 1) := by decide +kernel
theorem dX10_mix_29 : decode cX10_mix 29 = .ok (.iload_n 2, 1) := by decide +kernel
theorem dX10_mix_30 : decode cX10_mix 30 = .ok (.invokevirtual 39, 3) := by decide +kernel
theorem dX10_mix_33 : decode cX10_mix 33 = .ok (.invokestatic 29, 3) := by decide +kernel
theorem dX10_mix_36 : decode cX10_mix 36 = .ok (.iinc 2 1, 3) := by decide +kernel
theorem dX10_mix_39 : decode cX10_mix 39 = .ok (.goto (-37), 3) := by decide +kernel
theorem dX10_mix_42 : decode cX10_mix 42 = .ok (.return_, 1) := by decide +kernel
theorem k_bp32 : (Int8.ofInt (32)).toInt32 = 32 := by decide


def F_X10_mix_b29 (x1 : Int32) (K2 : Int32 → S10 → Option (S10)) (v2 : Int32) (zs_o : S10) (k1 : Int32) (k3 : Int32) : Option (S10) := (F_X10_sound zs_o k3 v2).bind fun q_1 => (F_X6_set 48 (s10_sounds zs_o) k1 q_1).bind fun q_2 => nm (v2 + 1) fun v2_3 => K2 v2_3 (u10_sounds zs_o q_2)
def F_X10_mix_b2 (x1 : Int32) : Nat → Int32 → S10 → Option (S10)
  | 0, _, _ => none
  | n + 1, v2, zs_o => (if (s10_size zs_o) ≤ v2 then some (zs_o) else (if v2 = x1 then F_X10_mix_b29 x1 (F_X10_mix_b2 x1 n) v2 zs_o (32 + v2) 0 else F_X10_mix_b29 x1 (F_X10_mix_b2 x1 n) v2 zs_o (32 + v2) 1))
def F_X10_mix (s_o : S10) (x1 : Int32) : Option (S10) := nm 0 fun v2_4 => F_X10_mix_b2 x1 fu v2_4 s_o
def w_X10_mix (o : Nat → Nat) (cB cI cJ cZ : ClassId) (s_o : S10) : va_W := List.flatten [(gX10 o cB cI cJ cZ s_o)]
abbrev rm_X10_mix : Room := { frames := 2, cells := 0, slots := 0, locals := 43 }
set_option maxHeartbeats 4000000 in
set_option maxRecDepth 100000 in
theorem c_X10_mix (l : Launch) (D : gG) (cB cI cJ cZ : ClassId) (o : Nat → Nat) (s_o : S10) (x1 : Int32) (r : S10) (hf : F_X10_mix s_o x1 = some r) : gM l D (tyL cB cI cJ cZ) yX10_mix cX10_mix 3 none rm_X10_mix [.ref (o 0), .int x1] (w_X10_mix o cB cI cJ cZ s_o) none (w_X10_mix o cB cI cJ cZ r) := by
  refine met_of (by decide) (Nat.le_of_ble_eq_true rfl) ?_
  intro p e s m args below meth c A cx hr hA
  show gW p l e rm_X10_mix s m args below meth c D A 3 _ 0 0 _ [(0, .ref (o 0)), (1, .int x1)] 0 []
  have h29 : ∀ (K2 : Int32 → S10 → Option (S10)), (∀ (v2 : Int32) (zs_o : S10), K2 v2 zs_o = some r → gW p l e rm_X10_mix s m args below meth c D A 3 (MQ below (QM D (tyL cB cI cJ cZ) none (w_X10_mix o cB cI cJ cZ s_o) (w_X10_mix o cB cI cJ cZ r) s.heap.size) args s 0 0 A) 0 0 (w_X10_mix o cB cI cJ cZ zs_o) [(0, .ref (o 0)), (1, .int x1), (2, .int v2)] 2 []) → ∀ (v2 : Int32) (zs_o : S10) (k1 : Int32) (k3 : Int32), F_X10_mix_b29 x1 K2 v2 zs_o k1 k3 = some r → gW p l e rm_X10_mix s m args below meth c D A 3 (MQ below (QM D (tyL cB cI cJ cZ) none (w_X10_mix o cB cI cJ cZ s_o) (w_X10_mix o cB cI cJ cZ r) s.heap.size) args s 0 0 A) 0 0 (w_X10_mix o cB cI cJ cZ zs_o) [(0, .ref (o 0)), (1, .int x1), (2, .int v2)] 29 [.int k3, .ref (o 0), .int k1, .ref (o 1)] := by
    intro K2 kh2 v2 zs_o k1 k3 hf
    rw [F_X10_mix_b29] at hf
    refine g_iln cx 2 dX10_mix_29 rfl ?_
    refine ob hf (fun q_1 hq_1 hf => ?_)
    refine g_callVGiR cx lk_RX10_39 (c_X10_sound l D cB cI cJ cZ o zs_o k3 v2 q_1 hq_1) rfl [0] rfl rfl (ci := 8) (q1 := 0) rfl rfl rfl (Nat.le_of_ble_eq_true rfl) ⟨rfl, rfl, Nat.le_of_ble_eq_true rfl, Nat.le_of_ble_eq_true rfl⟩ dX10_mix_30 ?_
    refine ob hf (fun q_2 hq_2 hf => ?_)
    refine g_callSv cx lk_RX10_29 (c_X6_set l D cB cI cJ cZ (o 1) 48 (s10_sounds zs_o) k1 q_1 q_2 hq_2) rfl [1] rfl rfl (ws' := (w_X10_mix o cB cI cJ cZ (u10_sounds zs_o q_2))) rfl rfl rfl (Nat.le_of_ble_eq_true rfl) ⟨rfl, rfl, Nat.le_of_ble_eq_true rfl, Nat.le_of_ble_eq_true rfl⟩ dX10_mix_33 ?_
    refine g_inc cx (L2 := fun v2_3 => [(2, .int v2_3), (0, .ref (o 0)), (1, .int x1)]) 2 hf dX10_mix_36 rfl (k_inc1 _) (Nat.le_of_ble_eq_true rfl) (fun _ => rfl) (fun v2_3 hf => ?_)
    refine g_goto (tgt := 2) cx dX10_mix_39 rfl ?_
    refine g_sub [1, 2, 0] rfl ?_
    exact kh2 _ _ hf
  have h2 : ∀ (n : Nat) (v2 : Int32) (zs_o : S10), F_X10_mix_b2 x1 n v2 zs_o = some r → gW p l e rm_X10_mix s m args below meth c D A 3 (MQ below (QM D (tyL cB cI cJ cZ) none (w_X10_mix o cB cI cJ cZ s_o) (w_X10_mix o cB cI cJ cZ r) s.heap.size) args s 0 0 A) 0 0 (w_X10_mix o cB cI cJ cZ zs_o) [(0, .ref (o 0)), (1, .int x1), (2, .int v2)] 2 [] := by
    intro n
    induction n with
    | zero => intro v2 zs_o hf; rw [F_X10_mix_b2] at hf; cases hf
    | succ n ih =>
      intro v2 zs_o hf
      rw [F_X10_mix_b2] at hf
      refine g_iln cx 2 dX10_mix_2 rfl ?_
      refine g_aln cx 0 dX10_mix_3 rfl ?_
      refine fg_RX10_21 cx 0 rfl rfl dX10_mix_4 ?_
      refine g_ic_ge (tgt := 42) cx hf dX10_mix_7 rfl (fun hf => ?_) (fun hf => ?_)
      · exact g_vret (ovf := fun (r : S10) => none) (wf := fun (r : S10) => (w_X10_mix o cB cI cJ cZ r)) cx hA hr hf rfl rfl dX10_mix_42
      · refine g_aln cx 0 dX10_mix_10 rfl ?_
        refine fg_RX10_9 cx 0 rfl rfl dX10_mix_11 ?_
        refine g_bp cx dX10_mix_14 k_bp32 ?_
        refine g_iln cx 2 dX10_mix_16 rfl ?_
        refine g_iadd cx dX10_mix_17 ?_
        refine g_aln cx 0 dX10_mix_18 rfl ?_
        refine g_iln cx 2 dX10_mix_19 rfl ?_
        refine g_iln cx 1 dX10_mix_20 rfl ?_
        refine g_ic_ne (tgt := 28) cx hf dX10_mix_21 rfl (fun hf => ?_) (fun hf => ?_)
        · refine g_ic cx dX10_mix_28 k_ic1 ?_
          exact h29 _ ih _ _ _ _ hf
        · refine g_ic cx dX10_mix_24 k_ic0 ?_
          refine g_goto (tgt := 29) cx dX10_mix_25 rfl ?_
          exact h29 _ ih _ _ _ _ hf
  rw [F_X10_mix] at hf
  refine g_ic cx dX10_mix_0 k_ic0 ?_
  refine g_isn cx (L2 := fun v2_4 => [(2, .int v2_4), (0, .ref (o 0)), (1, .int x1)]) hf dX10_mix_1 (Nat.le_of_ble_eq_true rfl) (fun _ => rfl) (fun v2_4 hf => ?_)
  refine g_sub [1, 2, 0] rfl ?_
  exact h2 fu _ _ hf
theorem dX1_size_0 : decode cX1_size 0 = .ok (.aload_n 0, 1) := by decide +kernel
theorem dX1_size_1 : decode cX1_size 1 = .ok (.getfield 18, 3) := by decide +kernel
theorem dX1_size_4 : decode cX1_size 4 = .ok (.ireturn, 1) := by decide +kernel
theorem q1_187 : Cond.fieldLink RX1 18 "RhymeLaw$Forms" "size" "I" ∈ TT := tq1 187 rfl rfl
theorem fg_RX1_18 {p : Program} {l : Launch} {e : Env} {R : Room} {s : State} {m : MethodId} {args : Array Value} {below : List Frame} {meth : Method} {c : Code} {D : gG} {tys : List (ClassId × FieldType)} {A : Nat → Prop} {nL : Nat} {Q : State → Prop} {cells slots : Nat} {cc : ByteArray} {ws : va_W} {L : List (Nat × Value)} {pc : Nat} {stk : List Value} (cx : gX p s m args meth c cc nL RX1 D tys A) {a : Nat} {fs : List Value} {v : Value} (q0 : Nat) (he : ws[q0]? = some (a, .inr (1, fs))) (hv : fs[2]? = some v) (hd : decode cc pc = .ok (.getfield 18, 3)) (kk : gW p l e R s m args below meth c D A nL Q cells slots ws L (pc + 3) (v :: stk)) : gW p l e R s m args below meth c D A nL Q cells slots ws L pc (.ref a :: stk) :=
  g_get cx (C := RX1) (T := TX1) (N := 3) inT1 rfl 2 (Nat.le_of_ble_eq_true rfl) q1_187 rfl q0 he hv hd kk
def F_X1_size (s_o : S1) : Option (Int32) := some ((s1_size s_o))
def w_X1_size (o : Nat → Nat) (cB cI cJ cZ : ClassId) (s_o : S1) : va_W := List.flatten [(gX1 o cB cI cJ cZ s_o)]
abbrev rm_X1_size : Room := { frames := 0, cells := 0, slots := 0, locals := 0 }
set_option maxHeartbeats 4000000 in
set_option maxRecDepth 100000 in
theorem c_X1_size (l : Launch) (D : gG) (cB cI cJ cZ : ClassId) (o : Nat → Nat) (s_o : S1) (r : Int32) (hf : F_X1_size s_o = some r) : gM l D (tyL cB cI cJ cZ) yX1_size cX1_size 1 (some .int) rm_X1_size [.ref (o 0)] (w_X1_size o cB cI cJ cZ s_o) (some (.int r)) (w_X1_size o cB cI cJ cZ s_o) := by
  refine met_of (by decide) (Nat.le_of_ble_eq_true rfl) ?_
  intro p e s m args below meth c A cx hr hA
  show gW p l e rm_X1_size s m args below meth c D A 1 _ 0 0 _ [(0, .ref (o 0))] 0 []
  rw [F_X1_size] at hf
  refine g_aln cx 0 dX1_size_0 rfl ?_
  refine fg_RX1_18 cx 0 rfl rfl dX1_size_1 ?_
  exact g_iret (ovf := fun (r : Int32) => (some (.int r))) (wf := fun (r : Int32) => (w_X1_size o cB cI cJ cZ s_o)) cx hA hr hf rfl rfl dX1_size_4
theorem dX1_isFull_0 : decode cX1_isFull 0 = .ok (.aload_n 0, 1) := by decide +kernel
theorem dX1_isFull_1 : decode cX1_isFull 1 = .ok (.getfield 18, 3) := by decide +kernel
theorem dX1_isFull_4 : decode cX1_isFull 4 = .ok (.iconst 2, 1) := by decide +kernel
theorem dX1_isFull_5 : decode cX1_isFull 5 = .ok (.if_icmp .lt 7, 3) := by decide +kernel
theorem dX1_isFull_8 : decode cX1_isFull 8 = .ok (.iconst 1, 1) := by decide +kernel
theorem dX1_isFull_9 : decode cX1_isFull 9 = .ok (.goto 4, 3) := by decide +kernel
theorem dX1_isFull_12 : decode cX1_isFull 12 = .ok (.iconst 0, 1) := by decide +kernel
theorem dX1_isFull_13 : decode cX1_isFull 13 = .ok (.ireturn, 1) := by decide +kernel


def F_X1_isFull (s_o : S1) : Option (Int32) := (if (s1_size s_o) < 2 then some (0) else some (1))
def w_X1_isFull (o : Nat → Nat) (cB cI cJ cZ : ClassId) (s_o : S1) : va_W := List.flatten [(gX1 o cB cI cJ cZ s_o)]
abbrev rm_X1_isFull : Room := { frames := 0, cells := 0, slots := 0, locals := 0 }
set_option maxHeartbeats 4000000 in
set_option maxRecDepth 100000 in
theorem c_X1_isFull (l : Launch) (D : gG) (cB cI cJ cZ : ClassId) (o : Nat → Nat) (s_o : S1) (r : Int32) (hf : F_X1_isFull s_o = some r) : gM l D (tyL cB cI cJ cZ) yX1_isFull cX1_isFull 1 (some .boolean) rm_X1_isFull [.ref (o 0)] (w_X1_isFull o cB cI cJ cZ s_o) (some (.int r)) (w_X1_isFull o cB cI cJ cZ s_o) := by
  refine met_of (by decide) (Nat.le_of_ble_eq_true rfl) ?_
  intro p e s m args below meth c A cx hr hA
  show gW p l e rm_X1_isFull s m args below meth c D A 1 _ 0 0 _ [(0, .ref (o 0))] 0 []
  rw [F_X1_isFull] at hf
  refine g_aln cx 0 dX1_isFull_0 rfl ?_
  refine fg_RX1_18 cx 0 rfl rfl dX1_isFull_1 ?_
  refine g_ic cx dX1_isFull_4 k_ic2 ?_
  refine g_ic_lt (tgt := 12) cx hf dX1_isFull_5 rfl (fun hf => ?_) (fun hf => ?_)
  · refine g_ic cx dX1_isFull_12 k_ic0 ?_
    exact g_zret (ovf := fun (r : Int32) => (some (.int r))) (wf := fun (r : Int32) => (w_X1_isFull o cB cI cJ cZ s_o)) cx hA hr rfl hf rfl rfl dX1_isFull_13
  · refine g_ic cx dX1_isFull_8 k_ic1 ?_
    refine g_goto (tgt := 13) cx dX1_isFull_9 rfl ?_
    exact g_zret (ovf := fun (r : Int32) => (some (.int r))) (wf := fun (r : Int32) => (w_X1_isFull o cB cI cJ cZ s_o)) cx hA hr rfl hf rfl rfl dX1_isFull_13
theorem dX1_has_0 : decode cX1_has 0 = .ok (.iload_n 1, 1) := by decide +kernel
theorem dX1_has_1 : decode cX1_has 1 = .ok (.ifCond .lt 15, 3) := by decide +kernel
theorem dX1_has_4 : decode cX1_has 4 = .ok (.iload_n 1, 1) := by decide +kernel
theorem dX1_has_5 : decode cX1_has 5 = .ok (.aload_n 0, 1) := by decide +kernel
theorem dX1_has_6 : decode cX1_has 6 = .ok (.getfield 18, 3) := by decide +kernel
theorem dX1_has_9 : decode cX1_has 9 = .ok (.if_icmp .ge 7, 3) := by decide +kernel
theorem dX1_has_12 : decode cX1_has 12 = .ok (.iconst 1, 1) := by decide +kernel
theorem dX1_has_13 : decode cX1_has 13 = .ok (.goto 4, 3) := by decide +kernel
theorem dX1_has_16 : decode cX1_has 16 = .ok (.iconst 0, 1) := by decide +kernel
theorem dX1_has_17 : decode cX1_has 17 = .ok (.ireturn, 1) := by decide +kernel


def F_X1_has (s_o : S1) (x1 : Int32) : Option (Int32) := (if x1 < 0 then some (0) else (if (s1_size s_o) ≤ x1 then some (0) else some (1)))
def w_X1_has (o : Nat → Nat) (cB cI cJ cZ : ClassId) (s_o : S1) : va_W := List.flatten [(gX1 o cB cI cJ cZ s_o)]
abbrev rm_X1_has : Room := { frames := 0, cells := 0, slots := 0, locals := 0 }
set_option maxHeartbeats 4000000 in
set_option maxRecDepth 100000 in
theorem c_X1_has (l : Launch) (D : gG) (cB cI cJ cZ : ClassId) (o : Nat → Nat) (s_o : S1) (x1 : Int32) (r : Int32) (hf : F_X1_has s_o x1 = some r) : gM l D (tyL cB cI cJ cZ) yX1_has cX1_has 2 (some .boolean) rm_X1_has [.ref (o 0), .int x1] (w_X1_has o cB cI cJ cZ s_o) (some (.int r)) (w_X1_has o cB cI cJ cZ s_o) := by
  refine met_of (by decide) (Nat.le_of_ble_eq_true rfl) ?_
  intro p e s m args below meth c A cx hr hA
  show gW p l e rm_X1_has s m args below meth c D A 2 _ 0 0 _ [(0, .ref (o 0)), (1, .int x1)] 0 []
  rw [F_X1_has] at hf
  refine g_iln cx 1 dX1_has_0 rfl ?_
  refine g_if_lt (tgt := 16) cx hf dX1_has_1 rfl (fun hf => ?_) (fun hf => ?_)
  · refine g_ic cx dX1_has_16 k_ic0 ?_
    exact g_zret (ovf := fun (r : Int32) => (some (.int r))) (wf := fun (r : Int32) => (w_X1_has o cB cI cJ cZ s_o)) cx hA hr rfl hf rfl rfl dX1_has_17
  · refine g_iln cx 1 dX1_has_4 rfl ?_
    refine g_aln cx 0 dX1_has_5 rfl ?_
    refine fg_RX1_18 cx 0 rfl rfl dX1_has_6 ?_
    refine g_ic_ge (tgt := 16) cx hf dX1_has_9 rfl (fun hf => ?_) (fun hf => ?_)
    · refine g_ic cx dX1_has_16 k_ic0 ?_
      exact g_zret (ovf := fun (r : Int32) => (some (.int r))) (wf := fun (r : Int32) => (w_X1_has o cB cI cJ cZ s_o)) cx hA hr rfl hf rfl rfl dX1_has_17
    · refine g_ic cx dX1_has_12 k_ic1 ?_
      refine g_goto (tgt := 17) cx dX1_has_13 rfl ?_
      exact g_zret (ovf := fun (r : Int32) => (some (.int r))) (wf := fun (r : Int32) => (w_X1_has o cB cI cJ cZ s_o)) cx hA hr rfl hf rfl rfl dX1_has_17
theorem dX1_wipe_0 : decode cX1_wipe 0 = .ok (.aload_n 0, 1) := by decide +kernel
theorem dX1_wipe_1 : decode cX1_wipe 1 = .ok (.iconst 0, 1) := by decide +kernel
theorem dX1_wipe_2 : decode cX1_wipe 2 = .ok (.putfield 18, 3) := by decide +kernel
theorem dX1_wipe_5 : decode cX1_wipe 5 = .ok (.return_, 1) := by decide +kernel

theorem fp_RX1_18 {p : Program} {l : Launch} {e : Env} {R : Room} {s : State} {m : MethodId} {args : Array Value} {below : List Frame} {meth : Method} {c : Code} {D : gG} {tys : List (ClassId × FieldType)} {A : Nat → Prop} {nL : Nat} {Q : State → Prop} {cells slots : Nat} {cc : ByteArray} {ws : va_W} {L : List (Nat × Value)} {pc : Nat} {stk : List Value} (cx : gX p s m args meth c cc nL RX1 D tys A) {a : Nat} {fs : List Value} {x : Int32} (q0 : Nat) (he : ws[q0]? = some (a, .inr (1, fs))) (hl : 2 < fs.length) {ws' : va_W} (hw : ws.set q0 (a, .inr (1, fs.set 2 (.int x))) = ws') (hd : decode cc pc = .ok (.putfield 18, 3)) (kk : gW p l e R s m args below meth c D A nL Q cells slots ws' L (pc + 3) stk) : gW p l e R s m args below meth c D A nL Q cells slots ws L pc (.int x :: .ref a :: stk) :=
  g_put cx (C := RX1) (T := TX1) (N := 3) (ty0 := tyX1) (ty := .int) inT1 tyX1_ok nmX1 rfl 2 (Nat.le_of_ble_eq_true rfl) q1_187 rfl rfl rfl rfl rfl q0 he hl hw hd kk
def F_X1_wipe (s_o : S1) : Option (S1) := nm (u1_size s_o 0) fun s_o_1 => some (s_o_1)
def w_X1_wipe (o : Nat → Nat) (cB cI cJ cZ : ClassId) (s_o : S1) : va_W := List.flatten [(gX1 o cB cI cJ cZ s_o)]
abbrev rm_X1_wipe : Room := { frames := 0, cells := 0, slots := 0, locals := 0 }
set_option maxHeartbeats 4000000 in
set_option maxRecDepth 100000 in
theorem c_X1_wipe (l : Launch) (D : gG) (cB cI cJ cZ : ClassId) (o : Nat → Nat) (s_o : S1) (r : S1) (hf : F_X1_wipe s_o = some r) : gM l D (tyL cB cI cJ cZ) yX1_wipe cX1_wipe 1 none rm_X1_wipe [.ref (o 0)] (w_X1_wipe o cB cI cJ cZ s_o) none (w_X1_wipe o cB cI cJ cZ r) := by
  refine met_of (by decide) (Nat.le_of_ble_eq_true rfl) ?_
  intro p e s m args below meth c A cx hr hA
  show gW p l e rm_X1_wipe s m args below meth c D A 1 _ 0 0 _ [(0, .ref (o 0))] 0 []
  rw [F_X1_wipe] at hf
  refine g_aln cx 0 dX1_wipe_0 rfl ?_
  refine g_ic cx dX1_wipe_1 k_ic0 ?_
  refine fp_RX1_18 cx 0 rfl (Nat.le_of_ble_eq_true rfl) (ws' := (w_X1_wipe o cB cI cJ cZ (u1_size s_o 0))) rfl dX1_wipe_2 ?_
  refine g_nm (w := fun s_o_1 => (w_X1_wipe o cB cI cJ cZ s_o_1)) hf (fun s_o_1 hf => ?_)
  exact g_vret (ovf := fun (r : S1) => none) (wf := fun (r : S1) => (w_X1_wipe o cB cI cJ cZ r)) cx hA hr hf rfl rfl dX1_wipe_5
theorem dX1_begin_0 : decode cX1_begin 0 = .ok (.aload_n 0, 1) := by decide +kernel
theorem dX1_begin_1 : decode cX1_begin 1 = .ok (.invokevirtual 22, 3) := by decide +kernel
theorem dX1_begin_4 : decode cX1_begin 4 = .ok (.ifCond .eq 4, 3) := by decide +kernel
theorem dX1_begin_7 : decode cX1_begin 7 = .ok (.return_, 1) := by decide +kernel
theorem dX1_begin_8 : decode cX1_begin 8 = .ok (.aload_n 0, 1) := by decide +kernel
theorem dX1_begin_9 : decode cX1_begin 9 = .ok (.getfield 15, 3) := by decide +kernel
theorem dX1_begin_12 : decode cX1_begin 12 = .ok (.aload_n 0, 1) := by decide +kernel
theorem dX1_begin_13 : decode cX1_begin 13 = .ok (.getfield 18, 3) := by decide +kernel
theorem dX1_begin_16 : decode cX1_begin 16 = .ok (.iconst 0, 1) := by decide +kernel
theorem dX1_begin_17 : decode cX1_begin 17 = .ok (.invokestatic 26, 3) := by decide +kernel
theorem dX1_begin_20 : decode cX1_begin 20 = .ok (.aload_n 0, 1) := by decide +kernel
theorem dX1_begin_21 : decode cX1_begin 21 = .ok (.dup, 1) := by decide +kernel
theorem dX1_begin_22 : decode cX1_begin 22 = .ok (.getfield 18, 3) := by decide +kernel
theorem dX1_begin_25 : decode cX1_begin 25 = .ok (.iconst 1, 1) := by decide +kernel
theorem dX1_begin_26 : decode cX1_begin 26 = .ok (.iadd, 1) := by decide +kernel
theorem dX1_begin_27 : decode cX1_begin 27 = .ok (.putfield 18, 3) := by decide +kernel
theorem dX1_begin_30 : decode cX1_begin 30 = .ok (.return_, 1) := by decide +kernel
theorem q1_11 : Cond.initialized RX1 ∈ TT := tq1 11 rfl rfl
theorem q1_186 : Cond.fieldLink RX1 15 "RhymeLaw$Forms" "lengths" "[I" ∈ TT := tq1 186 rfl rfl
theorem q2_185 : Cond.instanceMethod yX1_isFull ∈ TT := tq2 185 rfl rfl
theorem q2_186 : Cond.selects RX1 yX1_isFull yX1_isFull ∈ TT := tq2 186 rfl rfl
theorem q2_187 : Cond.code yX1_isFull cX1_isFull 1 (some .boolean) ∈ TT := tq2 187 rfl rfl
theorem q2_196 : Cond.methodLink RX1 22 yX1_isFull ∈ TT := tq2 196 rfl rfl
theorem q2_197 : Cond.methodLink RX1 26 yX6_set ∈ TT := tq2 197 rfl rfl
theorem lk_RX1_22 : vlk RX1 22 yX1_isFull cX1_isFull 1 (some .boolean) 0 := ⟨List.forall_mem_cons.mpr ⟨q2_196, List.forall_mem_cons.mpr ⟨q2_185, List.forall_mem_cons.mpr ⟨q2_186, List.forall_mem_cons.mpr ⟨q1_11, fun _ h => absurd h List.not_mem_nil⟩⟩⟩⟩, q2_187, by decide, by decide, by decide +kernel⟩
theorem fg_RX1_15 {p : Program} {l : Launch} {e : Env} {R : Room} {s : State} {m : MethodId} {args : Array Value} {below : List Frame} {meth : Method} {c : Code} {D : gG} {tys : List (ClassId × FieldType)} {A : Nat → Prop} {nL : Nat} {Q : State → Prop} {cells slots : Nat} {cc : ByteArray} {ws : va_W} {L : List (Nat × Value)} {pc : Nat} {stk : List Value} (cx : gX p s m args meth c cc nL RX1 D tys A) {a : Nat} {fs : List Value} {v : Value} (q0 : Nat) (he : ws[q0]? = some (a, .inr (1, fs))) (hv : fs[1]? = some v) (hd : decode cc pc = .ok (.getfield 15, 3)) (kk : gW p l e R s m args below meth c D A nL Q cells slots ws L (pc + 3) (v :: stk)) : gW p l e R s m args below meth c D A nL Q cells slots ws L pc (.ref a :: stk) :=
  g_get cx (C := RX1) (T := TX1) (N := 3) inT1 rfl 1 (Nat.le_of_ble_eq_true rfl) q1_186 rfl q0 he hv hd kk
theorem lk_RX1_26 : slk RX1 26 yX6_set cX6_set 3 none 3 := ⟨List.forall_mem_cons.mpr ⟨q2_197, List.forall_mem_cons.mpr ⟨q2_178, List.forall_mem_cons.mpr ⟨q1_19, fun _ h => absurd h List.not_mem_nil⟩⟩⟩, q2_179, by decide, by decide, by decide +kernel⟩
def F_X1_begin (s_o : S1) : Option (S1) := (F_X1_isFull s_o).bind fun q_1 => (if q_1 = 0 then (F_X6_set 2 (s1_lengths s_o) (s1_size s_o) 0).bind fun q_2 => nm (u1_size (u1_lengths s_o q_2) ((s1_size (u1_lengths s_o q_2)) + 1)) fun s_o_3 => some (s_o_3) else some (s_o))
def w_X1_begin (o : Nat → Nat) (cB cI cJ cZ : ClassId) (s_o : S1) : va_W := List.flatten [(gX1 o cB cI cJ cZ s_o)]
abbrev rm_X1_begin : Room := { frames := 1, cells := 0, slots := 0, locals := 22 }
set_option maxHeartbeats 4000000 in
set_option maxRecDepth 100000 in
theorem c_X1_begin (l : Launch) (D : gG) (cB cI cJ cZ : ClassId) (o : Nat → Nat) (s_o : S1) (r : S1) (hf : F_X1_begin s_o = some r) : gM l D (tyL cB cI cJ cZ) yX1_begin cX1_begin 1 none rm_X1_begin [.ref (o 0)] (w_X1_begin o cB cI cJ cZ s_o) none (w_X1_begin o cB cI cJ cZ r) := by
  refine met_of (by decide) (Nat.le_of_ble_eq_true rfl) ?_
  intro p e s m args below meth c A cx hr hA
  show gW p l e rm_X1_begin s m args below meth c D A 1 _ 0 0 _ [(0, .ref (o 0))] 0 []
  rw [F_X1_begin] at hf
  refine g_aln cx 0 dX1_begin_0 rfl ?_
  refine ob hf (fun q_1 hq_1 hf => ?_)
  refine g_callVGiR cx lk_RX1_22 (c_X1_isFull l D cB cI cJ cZ o s_o q_1 hq_1) rfl [0] rfl rfl (ci := 1) (q1 := 0) rfl rfl rfl (Nat.le_of_ble_eq_true rfl) ⟨rfl, rfl, Nat.le_of_ble_eq_true rfl, Nat.le_of_ble_eq_true rfl⟩ dX1_begin_1 ?_
  refine g_if_eq (tgt := 8) cx hf dX1_begin_4 rfl (fun hf => ?_) (fun hf => ?_)
  · refine g_aln cx 0 dX1_begin_8 rfl ?_
    refine fg_RX1_15 cx 0 rfl rfl dX1_begin_9 ?_
    refine g_aln cx 0 dX1_begin_12 rfl ?_
    refine fg_RX1_18 cx 0 rfl rfl dX1_begin_13 ?_
    refine g_ic cx dX1_begin_16 k_ic0 ?_
    refine ob hf (fun q_2 hq_2 hf => ?_)
    refine g_callSv cx lk_RX1_26 (c_X6_set l D cB cI cJ cZ (o 2) 2 (s1_lengths s_o) (s1_size s_o) 0 q_2 hq_2) rfl [2] rfl rfl (ws' := (w_X1_begin o cB cI cJ cZ (u1_lengths s_o q_2))) rfl rfl rfl (Nat.le_of_ble_eq_true rfl) ⟨rfl, rfl, Nat.le_of_ble_eq_true rfl, Nat.le_of_ble_eq_true rfl⟩ dX1_begin_17 ?_
    refine g_aln cx 0 dX1_begin_20 rfl ?_
    refine g_dup cx dX1_begin_21 rfl ?_
    refine fg_RX1_18 cx 0 rfl rfl dX1_begin_22 ?_
    refine g_ic cx dX1_begin_25 k_ic1 ?_
    refine g_iadd cx dX1_begin_26 ?_
    refine fp_RX1_18 cx 0 rfl (Nat.le_of_ble_eq_true rfl) (ws' := (w_X1_begin o cB cI cJ cZ (u1_size (u1_lengths s_o q_2) ((s1_size (u1_lengths s_o q_2)) + 1)))) rfl dX1_begin_27 ?_
    refine g_nm (w := fun s_o_3 => (w_X1_begin o cB cI cJ cZ s_o_3)) hf (fun s_o_3 hf => ?_)
    exact g_vret (ovf := fun (r : S1) => none) (wf := fun (r : S1) => (w_X1_begin o cB cI cJ cZ r)) cx hA hr hf rfl rfl dX1_begin_30
  · exact g_vret (ovf := fun (r : S1) => none) (wf := fun (r : S1) => (w_X1_begin o cB cI cJ cZ r)) cx hA hr hf rfl rfl dX1_begin_7
theorem dX1_addLetter_0 : decode cX1_addLetter 0 = .ok (.aload_n 0, 1) := by decide +kernel
theorem dX1_addLetter_1 : decode cX1_addLetter 1 = .ok (.getfield 18, 3) := by decide +kernel
theorem dX1_addLetter_4 : decode cX1_addLetter 4 = .ok (.iconst 1, 1) := by decide +kernel
theorem dX1_addLetter_5 : decode cX1_addLetter 5 = .ok (.isub, 1) := by decide +kernel
theorem dX1_addLetter_6 : decode cX1_addLetter 6 = .ok (.istore_n 2, 1) := by decide +kernel
theorem dX1_addLetter_7 : decode cX1_addLetter 7 = .ok (.aload_n 0, 1) := by decide +kernel
theorem dX1_addLetter_8 : decode cX1_addLetter 8 = .ok (.getfield 15, 3) := by decide +kernel
theorem dX1_addLetter_11 : decode cX1_addLetter 11 = .ok (.iload_n 2, 1) := by decide +kernel
theorem dX1_addLetter_12 : decode cX1_addLetter 12 = .ok (.invokestatic 32, 3) := by decide +kernel
theorem dX1_addLetter_15 : decode cX1_addLetter 15 = .ok (.istore_n 3, 1) := by decide +kernel
theorem dX1_addLetter_16 : decode cX1_addLetter 16 = .ok (.iload_n 2, 1) := by decide +kernel
theorem dX1_addLetter_17 : decode cX1_addLetter 17 = .ok (.ifCond .lt 9, 3) := by decide +kernel
theorem dX1_addLetter_20 : decode cX1_addLetter 20 = .ok (.iload_n 3, 1) := by decide +kernel
theorem dX1_addLetter_21 : decode cX1_addLetter 21 = .ok (.bipush 8, 2) := by decide +kernel
theorem dX1_addLetter_23 : decode cX1_addLetter 23 = .ok (.if_icmp .lt 4, 3) := by decide +kernel
theorem dX1_addLetter_26 : decode cX1_addLetter 26 = .ok (.return_, 1) := by decide +kernel
theorem dX1_addLetter_27 : decode cX1_addLetter 27 = .ok (.aload_n 0, 1) := by decide +kernel
theorem dX1_addLetter_28 : decode cX1_addLetter 28 = .ok (.getfield 9, 3) := by decide +kernel
theorem dX1_addLetter_31 : decode cX1_addLetter 31 = .ok (.iload_n 2, 1) := by decide +kernel
theorem dX1_addLetter_32 : decode cX1_addLetter 32 = .ok (.bipush 8, 2) := by decide +kernel
theorem dX1_addLetter_34 : decode cX1_addLetter 34 = .ok (.imul, 1) := by decide +kernel
theorem dX1_addLetter_35 : decode cX1_addLetter 35 = .ok (.iload_n 3, 1) := by decide +kernel
theorem dX1_addLetter_36 : decode cX1_addLetter 36 = .ok (.iadd, 1) := by decide +kernel
theorem dX1_addLetter_37 : decode cX1_addLetter 37 = .ok (.iload_n 1, 1) := by decide +kernel
theorem dX1_addLetter_38 : decode cX1_addLetter 38 = .ok (.invokestatic 26, 3) := by decide +kernel
theorem dX1_addLetter_41 : decode cX1_addLetter 41 = .ok (.aload_n 0, 1) := by decide +kernel
theorem dX1_addLetter_42 : decode cX1_addLetter 42 = .ok (.getfield 15, 3) := by decide +kernel
theorem dX1_addLetter_45 : decode cX1_addLetter 45 = .ok (.iload_n 2, 1) := by decide +kernel
theorem dX1_addLetter_46 : decode cX1_addLetter 46 = .ok (.iload_n 3, 1) := by decide +kernel
theorem dX1_addLetter_47 : decode cX1_addLetter 47 = .ok (.iconst 1, 1) := by decide +kernel
theorem dX1_addLetter_48 : decode cX1_addLetter 48 = .ok (.iadd, 1) := by decide +kernel
theorem dX1_addLetter_49 : decode cX1_addLetter 49 = .ok (.invokestatic 26, 3) := by decide +kernel
theorem dX1_addLetter_52 : decode cX1_addLetter 52 = .ok (.return_, 1) := by decide +kernel
theorem q1_185 : Cond.fieldLink RX1 9 "RhymeLaw$Forms" "letters" "[I" ∈ TT := tq1 185 rfl rfl
theorem q2_206 : Cond.methodLink RX1 32 yX6_at ∈ TT := tq2 206 rfl rfl
theorem lk_RX1_32 : slk RX1 32 yX6_at cX6_at 2 (some .int) 2 := ⟨List.forall_mem_cons.mpr ⟨q2_206, List.forall_mem_cons.mpr ⟨q2_207, List.forall_mem_cons.mpr ⟨q1_19, fun _ h => absurd h List.not_mem_nil⟩⟩⟩, q2_208, by decide, by decide, by decide +kernel⟩
theorem fg_RX1_9 {p : Program} {l : Launch} {e : Env} {R : Room} {s : State} {m : MethodId} {args : Array Value} {below : List Frame} {meth : Method} {c : Code} {D : gG} {tys : List (ClassId × FieldType)} {A : Nat → Prop} {nL : Nat} {Q : State → Prop} {cells slots : Nat} {cc : ByteArray} {ws : va_W} {L : List (Nat × Value)} {pc : Nat} {stk : List Value} (cx : gX p s m args meth c cc nL RX1 D tys A) {a : Nat} {fs : List Value} {v : Value} (q0 : Nat) (he : ws[q0]? = some (a, .inr (1, fs))) (hv : fs[0]? = some v) (hd : decode cc pc = .ok (.getfield 9, 3)) (kk : gW p l e R s m args below meth c D A nL Q cells slots ws L (pc + 3) (v :: stk)) : gW p l e R s m args below meth c D A nL Q cells slots ws L pc (.ref a :: stk) :=
  g_get cx (C := RX1) (T := TX1) (N := 3) inT1 rfl 0 (Nat.le_of_ble_eq_true rfl) q1_185 rfl q0 he hv hd kk
def F_X1_addLetter (s_o : S1) (x1 : Int32) : Option (S1) := nm ((s1_size s_o) - 1) fun v2_1 => (F_X6_at 2 (s1_lengths s_o) v2_1).bind fun q_2 => nm q_2 fun v3_3 => (if v2_1 < 0 then some (s_o) else (if v3_3 < 8 then (F_X6_set 16 (s1_letters s_o) ((v2_1 * 8) + v3_3) x1).bind fun q_4 => (F_X6_set 2 (s1_lengths (u1_letters s_o q_4)) v2_1 (v3_3 + 1)).bind fun q_5 => some ((u1_lengths (u1_letters s_o q_4) q_5)) else some (s_o)))
def w_X1_addLetter (o : Nat → Nat) (cB cI cJ cZ : ClassId) (s_o : S1) : va_W := List.flatten [(gX1 o cB cI cJ cZ s_o)]
abbrev rm_X1_addLetter : Room := { frames := 1, cells := 0, slots := 0, locals := 22 }
set_option maxHeartbeats 4000000 in
set_option maxRecDepth 100000 in
theorem c_X1_addLetter (l : Launch) (D : gG) (cB cI cJ cZ : ClassId) (o : Nat → Nat) (s_o : S1) (x1 : Int32) (r : S1) (hf : F_X1_addLetter s_o x1 = some r) : gM l D (tyL cB cI cJ cZ) yX1_addLetter cX1_addLetter 4 none rm_X1_addLetter [.ref (o 0), .int x1] (w_X1_addLetter o cB cI cJ cZ s_o) none (w_X1_addLetter o cB cI cJ cZ r) := by
  refine met_of (by decide) (Nat.le_of_ble_eq_true rfl) ?_
  intro p e s m args below meth c A cx hr hA
  show gW p l e rm_X1_addLetter s m args below meth c D A 4 _ 0 0 _ [(0, .ref (o 0)), (1, .int x1)] 0 []
  rw [F_X1_addLetter] at hf
  refine g_aln cx 0 dX1_addLetter_0 rfl ?_
  refine fg_RX1_18 cx 0 rfl rfl dX1_addLetter_1 ?_
  refine g_ic cx dX1_addLetter_4 k_ic1 ?_
  refine g_isub cx dX1_addLetter_5 ?_
  refine g_isn cx (L2 := fun v2_1 => [(2, .int v2_1), (0, .ref (o 0)), (1, .int x1)]) hf dX1_addLetter_6 (Nat.le_of_ble_eq_true rfl) (fun _ => rfl) (fun v2_1 hf => ?_)
  refine g_aln cx 1 dX1_addLetter_7 rfl ?_
  refine fg_RX1_15 cx 0 rfl rfl dX1_addLetter_8 ?_
  refine g_iln cx 0 dX1_addLetter_11 rfl ?_
  refine ob hf (fun q_2 hq_2 hf => ?_)
  refine g_callSiR cx lk_RX1_32 (c_X6_at l D cB cI cJ cZ (o 2) 2 (s1_lengths s_o) v2_1 q_2 hq_2) rfl [2] rfl rfl rfl (Nat.le_of_ble_eq_true rfl) ⟨rfl, rfl, Nat.le_of_ble_eq_true rfl, Nat.le_of_ble_eq_true rfl⟩ dX1_addLetter_12 ?_
  refine g_isn cx (L2 := fun v3_3 => [(3, .int v3_3), (2, .int v2_1), (0, .ref (o 0)), (1, .int x1)]) hf dX1_addLetter_15 (Nat.le_of_ble_eq_true rfl) (fun _ => rfl) (fun v3_3 hf => ?_)
  refine g_iln cx 1 dX1_addLetter_16 rfl ?_
  refine g_if_lt (tgt := 26) cx hf dX1_addLetter_17 rfl (fun hf => ?_) (fun hf => ?_)
  · exact g_vret (ovf := fun (r : S1) => none) (wf := fun (r : S1) => (w_X1_addLetter o cB cI cJ cZ r)) cx hA hr hf rfl rfl dX1_addLetter_26
  · refine g_iln cx 0 dX1_addLetter_20 rfl ?_
    refine g_bp cx dX1_addLetter_21 k_bp8 ?_
    refine g_ic_lt (tgt := 27) cx hf dX1_addLetter_23 rfl (fun hf => ?_) (fun hf => ?_)
    · refine g_aln cx 2 dX1_addLetter_27 rfl ?_
      refine fg_RX1_9 cx 0 rfl rfl dX1_addLetter_28 ?_
      refine g_iln cx 1 dX1_addLetter_31 rfl ?_
      refine g_bp cx dX1_addLetter_32 k_bp8 ?_
      refine g_imul cx dX1_addLetter_34 ?_
      refine g_iln cx 0 dX1_addLetter_35 rfl ?_
      refine g_iadd cx dX1_addLetter_36 ?_
      refine g_iln cx 3 dX1_addLetter_37 rfl ?_
      refine ob hf (fun q_4 hq_4 hf => ?_)
      refine g_callSv cx lk_RX1_26 (c_X6_set l D cB cI cJ cZ (o 1) 16 (s1_letters s_o) ((v2_1 * 8) + v3_3) x1 q_4 hq_4) rfl [1] rfl rfl (ws' := (w_X1_addLetter o cB cI cJ cZ (u1_letters s_o q_4))) rfl rfl rfl (Nat.le_of_ble_eq_true rfl) ⟨rfl, rfl, Nat.le_of_ble_eq_true rfl, Nat.le_of_ble_eq_true rfl⟩ dX1_addLetter_38 ?_
      refine g_aln cx 2 dX1_addLetter_41 rfl ?_
      refine fg_RX1_15 cx 0 rfl rfl dX1_addLetter_42 ?_
      refine g_iln cx 1 dX1_addLetter_45 rfl ?_
      refine g_iln cx 0 dX1_addLetter_46 rfl ?_
      refine g_ic cx dX1_addLetter_47 k_ic1 ?_
      refine g_iadd cx dX1_addLetter_48 ?_
      refine ob hf (fun q_5 hq_5 hf => ?_)
      refine g_callSv cx lk_RX1_26 (c_X6_set l D cB cI cJ cZ (o 2) 2 (s1_lengths (u1_letters s_o q_4)) v2_1 (v3_3 + 1) q_5 hq_5) rfl [2] rfl rfl (ws' := (w_X1_addLetter o cB cI cJ cZ (u1_lengths (u1_letters s_o q_4) q_5))) rfl rfl rfl (Nat.le_of_ble_eq_true rfl) ⟨rfl, rfl, Nat.le_of_ble_eq_true rfl, Nat.le_of_ble_eq_true rfl⟩ dX1_addLetter_49 ?_
      exact g_vret (ovf := fun (r : S1) => none) (wf := fun (r : S1) => (w_X1_addLetter o cB cI cJ cZ r)) cx hA hr hf rfl rfl dX1_addLetter_52
    · exact g_vret (ovf := fun (r : S1) => none) (wf := fun (r : S1) => (w_X1_addLetter o cB cI cJ cZ r)) cx hA hr hf rfl rfl dX1_addLetter_26
theorem dX1_letter_0 : decode cX1_letter 0 = .ok (.aload_n 0, 1) := by decide +kernel
theorem dX1_letter_1 : decode cX1_letter 1 = .ok (.getfield 15, 3) := by decide +kernel
theorem dX1_letter_4 : decode cX1_letter 4 = .ok (.iload_n 1, 1) := by decide +kernel
theorem dX1_letter_5 : decode cX1_letter 5 = .ok (.invokestatic 32, 3) := by decide +kernel
theorem dX1_letter_8 : decode cX1_letter 8 = .ok (.istore_n 3, 1) := by decide +kernel
theorem dX1_letter_9 : decode cX1_letter 9 = .ok (.iload_n 3, 1) := by decide +kernel
theorem dX1_letter_10 : decode cX1_letter 10 = .ok (.ifCond .le 25, 3) := by decide +kernel
theorem dX1_letter_13 : decode cX1_letter 13 = .ok (.iload_n 2, 1) := by decide +kernel
theorem dX1_letter_14 : decode cX1_letter 14 = .ok (.ifCond .lt 21, 3) := by decide +kernel
theorem dX1_letter_17 : decode cX1_letter 17 = .ok (.aload_n 0, 1) := by decide +kernel
theorem dX1_letter_18 : decode cX1_letter 18 = .ok (.getfield 9, 3) := by decide +kernel
theorem dX1_letter_21 : decode cX1_letter 21 = .ok (.iload_n 1, 1) := by decide +kernel
theorem dX1_letter_22 : decode cX1_letter 22 = .ok (.bipush 8, 2) := by decide +kernel
theorem dX1_letter_24 : decode cX1_letter 24 = .ok (.imul, 1) := by decide +kernel
theorem dX1_letter_25 : decode cX1_letter 25 = .ok (.iload_n 2, 1) := by decide +kernel
theorem dX1_letter_26 : decode cX1_letter 26 = .ok (.iload_n 3, 1) := by decide +kernel
theorem dX1_letter_27 : decode cX1_letter 27 = .ok (.irem, 1) := by decide +kernel
theorem dX1_letter_28 : decode cX1_letter 28 = .ok (.iadd, 1) := by decide +kernel
theorem dX1_letter_29 : decode cX1_letter 29 = .ok (.invokestatic 32, 3) := by decide +kernel
theorem dX1_letter_32 : decode cX1_letter 32 = .ok (.goto 4, 3) := by decide +kernel
theorem dX1_letter_35 : decode cX1_letter 35 = .ok (.iconst 0, 1) := by decide +kernel
theorem dX1_letter_36 : decode cX1_letter 36 = .ok (.ireturn, 1) := by decide +kernel


def F_X1_letter (s_o : S1) (x1 : Int32) (x2 : Int32) : Option (Int32) := (F_X6_at 2 (s1_lengths s_o) x1).bind fun q_1 => nm q_1 fun v3_2 => (if v3_2 ≤ 0 then some (0) else (if x2 < 0 then some (0) else (orem x2 v3_2).bind fun m_3 => (F_X6_at 16 (s1_letters s_o) ((x1 * 8) + m_3)).bind fun q_4 => some (q_4)))
def w_X1_letter (o : Nat → Nat) (cB cI cJ cZ : ClassId) (s_o : S1) : va_W := List.flatten [(gX1 o cB cI cJ cZ s_o)]
abbrev rm_X1_letter : Room := { frames := 1, cells := 0, slots := 0, locals := 21 }
set_option maxHeartbeats 4000000 in
set_option maxRecDepth 100000 in
theorem c_X1_letter (l : Launch) (D : gG) (cB cI cJ cZ : ClassId) (o : Nat → Nat) (s_o : S1) (x1 : Int32) (x2 : Int32) (r : Int32) (hf : F_X1_letter s_o x1 x2 = some r) : gM l D (tyL cB cI cJ cZ) yX1_letter cX1_letter 4 (some .int) rm_X1_letter [.ref (o 0), .int x1, .int x2] (w_X1_letter o cB cI cJ cZ s_o) (some (.int r)) (w_X1_letter o cB cI cJ cZ s_o) := by
  refine met_of (by decide) (Nat.le_of_ble_eq_true rfl) ?_
  intro p e s m args below meth c A cx hr hA
  show gW p l e rm_X1_letter s m args below meth c D A 4 _ 0 0 _ [(0, .ref (o 0)), (1, .int x1), (2, .int x2)] 0 []
  rw [F_X1_letter] at hf
  refine g_aln cx 0 dX1_letter_0 rfl ?_
  refine fg_RX1_15 cx 0 rfl rfl dX1_letter_1 ?_
  refine g_iln cx 1 dX1_letter_4 rfl ?_
  refine ob hf (fun q_1 hq_1 hf => ?_)
  refine g_callSiR cx lk_RX1_32 (c_X6_at l D cB cI cJ cZ (o 2) 2 (s1_lengths s_o) x1 q_1 hq_1) rfl [2] rfl rfl rfl (Nat.le_of_ble_eq_true rfl) ⟨rfl, rfl, Nat.le_of_ble_eq_true rfl, Nat.le_of_ble_eq_true rfl⟩ dX1_letter_5 ?_
  refine g_isn cx (L2 := fun v3_2 => [(3, .int v3_2), (0, .ref (o 0)), (1, .int x1), (2, .int x2)]) hf dX1_letter_8 (Nat.le_of_ble_eq_true rfl) (fun _ => rfl) (fun v3_2 hf => ?_)
  refine g_iln cx 0 dX1_letter_9 rfl ?_
  refine g_if_le (tgt := 35) cx hf dX1_letter_10 rfl (fun hf => ?_) (fun hf => ?_)
  · refine g_ic cx dX1_letter_35 k_ic0 ?_
    exact g_iret (ovf := fun (r : Int32) => (some (.int r))) (wf := fun (r : Int32) => (w_X1_letter o cB cI cJ cZ s_o)) cx hA hr hf rfl rfl dX1_letter_36
  · refine g_iln cx 3 dX1_letter_13 rfl ?_
    refine g_if_lt (tgt := 35) cx hf dX1_letter_14 rfl (fun hf => ?_) (fun hf => ?_)
    · refine g_ic cx dX1_letter_35 k_ic0 ?_
      exact g_iret (ovf := fun (r : Int32) => (some (.int r))) (wf := fun (r : Int32) => (w_X1_letter o cB cI cJ cZ s_o)) cx hA hr hf rfl rfl dX1_letter_36
    · refine g_aln cx 1 dX1_letter_17 rfl ?_
      refine fg_RX1_9 cx 0 rfl rfl dX1_letter_18 ?_
      refine g_iln cx 2 dX1_letter_21 rfl ?_
      refine g_bp cx dX1_letter_22 k_bp8 ?_
      refine g_imul cx dX1_letter_24 ?_
      refine g_iln cx 3 dX1_letter_25 rfl ?_
      refine g_iln cx 0 dX1_letter_26 rfl ?_
      refine g_irem cx hf dX1_letter_27 (fun m_3 hf => ?_)
      refine g_iadd cx dX1_letter_28 ?_
      refine ob hf (fun q_4 hq_4 hf => ?_)
      refine g_callSiR cx lk_RX1_32 (c_X6_at l D cB cI cJ cZ (o 1) 16 (s1_letters s_o) ((x1 * 8) + m_3) q_4 hq_4) rfl [1] rfl rfl rfl (Nat.le_of_ble_eq_true rfl) ⟨rfl, rfl, Nat.le_of_ble_eq_true rfl, Nat.le_of_ble_eq_true rfl⟩ dX1_letter_29 ?_
      refine g_goto (tgt := 36) cx dX1_letter_32 rfl ?_
      exact g_iret (ovf := fun (r : Int32) => (some (.int r))) (wf := fun (r : Int32) => (w_X1_letter o cB cI cJ cZ s_o)) cx hA hr hf rfl rfl dX1_letter_36
theorem dX1_ahead_0 : decode cX1_ahead 0 = .ok (.iload_n 2, 1) := by decide +kernel
theorem dX1_ahead_1 : decode cX1_ahead 1 = .ok (.iconst 1, 1) := by decide +kernel
theorem dX1_ahead_2 : decode cX1_ahead 2 = .ok (.isub, 1) := by decide +kernel
theorem dX1_ahead_3 : decode cX1_ahead 3 = .ok (.istore_n 3, 1) := by decide +kernel
theorem dX1_ahead_4 : decode cX1_ahead 4 = .ok (.iload_n 3, 1) := by decide +kernel
theorem dX1_ahead_5 : decode cX1_ahead 5 = .ok (.ifCond .lt 26, 3) := by decide +kernel
theorem dX1_ahead_8 : decode cX1_ahead 8 = .ok (.aload_n 0, 1) := by decide +kernel
theorem dX1_ahead_9 : decode cX1_ahead 9 = .ok (.iload_n 1, 1) := by decide +kernel
theorem dX1_ahead_10 : decode cX1_ahead 10 = .ok (.iload_n 3, 1) := by decide +kernel
theorem dX1_ahead_11 : decode cX1_ahead 11 = .ok (.invokevirtual 36, 3) := by decide +kernel
theorem dX1_ahead_14 : decode cX1_ahead 14 = .ok (.aload_n 0, 1) := by decide +kernel
theorem dX1_ahead_15 : decode cX1_ahead 15 = .ok (.iload_n 1, 1) := by decide +kernel
theorem dX1_ahead_16 : decode cX1_ahead 16 = .ok (.iload_n 2, 1) := by decide +kernel
theorem dX1_ahead_17 : decode cX1_ahead 17 = .ok (.invokevirtual 36, 3) := by decide +kernel
theorem dX1_ahead_20 : decode cX1_ahead 20 = .ok (.if_icmp .ne 5, 3) := by decide +kernel
theorem dX1_ahead_23 : decode cX1_ahead 23 = .ok (.iload_n 3, 1) := by decide +kernel
theorem dX1_ahead_24 : decode cX1_ahead 24 = .ok (.ireturn, 1) := by decide +kernel
theorem dX1_ahead_25 : decode cX1_ahead 25 = .ok (.iinc 3 (-1), 3) := by decide +kernel
theorem dX1_ahead_28 : decode cX1_ahead 28 = .ok (.goto (-24), 3) := by decide +kernel
theorem dX1_ahead_31 : decode cX1_ahead 31 = .ok (.iconst (-1), 1) := by decide +kernel
theorem dX1_ahead_32 : decode cX1_ahead 32 = .ok (.ireturn, 1) := by decide +kernel
theorem q3_53 : Cond.instanceMethod yX1_letter ∈ TT := tq3 53 rfl rfl
theorem q3_54 : Cond.selects RX1 yX1_letter yX1_letter ∈ TT := tq3 54 rfl rfl
theorem q3_55 : Cond.code yX1_letter cX1_letter 4 (some .int) ∈ TT := tq3 55 rfl rfl
theorem q3_237 : Cond.methodLink RX1 36 yX1_letter ∈ TT := tq3 237 rfl rfl
theorem lk_RX1_36 : vlk RX1 36 yX1_letter cX1_letter 4 (some .int) 2 := ⟨List.forall_mem_cons.mpr ⟨q3_237, List.forall_mem_cons.mpr ⟨q3_53, List.forall_mem_cons.mpr ⟨q3_54, List.forall_mem_cons.mpr ⟨q1_11, fun _ h => absurd h List.not_mem_nil⟩⟩⟩⟩, q3_55, by decide, by decide, by decide +kernel⟩
def F_X1_ahead_b4 (s_o : S1) (x1 : Int32) (x2 : Int32) : Nat → Int32 → Option (Int32)
  | 0, _ => none
  | n + 1, v3 => (if v3 < 0 then some ((-1)) else (F_X1_letter s_o x1 v3).bind fun q_1 => (F_X1_letter s_o x1 x2).bind fun q_2 => (if q_1 = q_2 then some (v3) else nm (v3 - 1) fun v3_3 => (F_X1_ahead_b4 s_o x1 x2 n) v3_3))
def F_X1_ahead (s_o : S1) (x1 : Int32) (x2 : Int32) : Option (Int32) := nm (x2 - 1) fun v3_4 => F_X1_ahead_b4 s_o x1 x2 fu v3_4
def w_X1_ahead (o : Nat → Nat) (cB cI cJ cZ : ClassId) (s_o : S1) : va_W := List.flatten [(gX1 o cB cI cJ cZ s_o)]
abbrev rm_X1_ahead : Room := { frames := 2, cells := 0, slots := 0, locals := 44 }
set_option maxHeartbeats 4000000 in
set_option maxRecDepth 100000 in
theorem c_X1_ahead (l : Launch) (D : gG) (cB cI cJ cZ : ClassId) (o : Nat → Nat) (s_o : S1) (x1 : Int32) (x2 : Int32) (r : Int32) (hf : F_X1_ahead s_o x1 x2 = some r) : gM l D (tyL cB cI cJ cZ) yX1_ahead cX1_ahead 4 (some .int) rm_X1_ahead [.ref (o 0), .int x1, .int x2] (w_X1_ahead o cB cI cJ cZ s_o) (some (.int r)) (w_X1_ahead o cB cI cJ cZ s_o) := by
  refine met_of (by decide) (Nat.le_of_ble_eq_true rfl) ?_
  intro p e s m args below meth c A cx hr hA
  show gW p l e rm_X1_ahead s m args below meth c D A 4 _ 0 0 _ [(0, .ref (o 0)), (1, .int x1), (2, .int x2)] 0 []
  have h4 : ∀ (n : Nat) (v3 : Int32), F_X1_ahead_b4 s_o x1 x2 n v3 = some r → gW p l e rm_X1_ahead s m args below meth c D A 4 (MQ below (QM D (tyL cB cI cJ cZ) (some (.int r)) (w_X1_ahead o cB cI cJ cZ s_o) (w_X1_ahead o cB cI cJ cZ s_o) s.heap.size) args s 0 0 A) 0 0 (w_X1_ahead o cB cI cJ cZ s_o) [(0, .ref (o 0)), (1, .int x1), (2, .int x2), (3, .int v3)] 4 [] := by
    intro n
    induction n with
    | zero => intro v3 hf; rw [F_X1_ahead_b4] at hf; cases hf
    | succ n ih =>
      intro v3 hf
      rw [F_X1_ahead_b4] at hf
      refine g_iln cx 3 dX1_ahead_4 rfl ?_
      refine g_if_lt (tgt := 31) cx hf dX1_ahead_5 rfl (fun hf => ?_) (fun hf => ?_)
      · refine g_ic cx dX1_ahead_31 k_icm1 ?_
        exact g_iret (ovf := fun (r : Int32) => (some (.int r))) (wf := fun (r : Int32) => (w_X1_ahead o cB cI cJ cZ s_o)) cx hA hr hf rfl rfl dX1_ahead_32
      · refine g_aln cx 0 dX1_ahead_8 rfl ?_
        refine g_iln cx 1 dX1_ahead_9 rfl ?_
        refine g_iln cx 3 dX1_ahead_10 rfl ?_
        refine ob hf (fun q_1 hq_1 hf => ?_)
        refine g_callVGiR cx lk_RX1_36 (c_X1_letter l D cB cI cJ cZ o s_o x1 v3 q_1 hq_1) rfl [0] rfl rfl (ci := 1) (q1 := 0) rfl rfl rfl (Nat.le_of_ble_eq_true rfl) ⟨rfl, rfl, Nat.le_of_ble_eq_true rfl, Nat.le_of_ble_eq_true rfl⟩ dX1_ahead_11 ?_
        refine g_aln cx 0 dX1_ahead_14 rfl ?_
        refine g_iln cx 1 dX1_ahead_15 rfl ?_
        refine g_iln cx 2 dX1_ahead_16 rfl ?_
        refine ob hf (fun q_2 hq_2 hf => ?_)
        refine g_callVGiR cx lk_RX1_36 (c_X1_letter l D cB cI cJ cZ o s_o x1 x2 q_2 hq_2) rfl [0] rfl rfl (ci := 1) (q1 := 0) rfl rfl rfl (Nat.le_of_ble_eq_true rfl) ⟨rfl, rfl, Nat.le_of_ble_eq_true rfl, Nat.le_of_ble_eq_true rfl⟩ dX1_ahead_17 ?_
        refine g_ic_ne (tgt := 25) cx hf dX1_ahead_20 rfl (fun hf => ?_) (fun hf => ?_)
        · refine g_inc cx (L2 := fun v3_3 => [(3, .int v3_3), (0, .ref (o 0)), (1, .int x1), (2, .int x2)]) 3 hf dX1_ahead_25 rfl (k_incm1 _) (Nat.le_of_ble_eq_true rfl) (fun _ => rfl) (fun v3_3 hf => ?_)
          refine g_goto (tgt := 4) cx dX1_ahead_28 rfl ?_
          refine g_sub [1, 2, 3, 0] rfl ?_
          exact ih _ hf
        · refine g_iln cx 3 dX1_ahead_23 rfl ?_
          exact g_iret (ovf := fun (r : Int32) => (some (.int r))) (wf := fun (r : Int32) => (w_X1_ahead o cB cI cJ cZ s_o)) cx hA hr hf rfl rfl dX1_ahead_24
  rw [F_X1_ahead] at hf
  refine g_iln cx 2 dX1_ahead_0 rfl ?_
  refine g_ic cx dX1_ahead_1 k_ic1 ?_
  refine g_isub cx dX1_ahead_2 ?_
  refine g_isn cx (L2 := fun v3_4 => [(3, .int v3_4), (0, .ref (o 0)), (1, .int x1), (2, .int x2)]) hf dX1_ahead_3 (Nat.le_of_ble_eq_true rfl) (fun _ => rfl) (fun v3_4 hf => ?_)
  refine g_sub [1, 2, 3, 0] rfl ?_
  exact h4 fu _ hf
theorem dX1_behind_0 : decode cX1_behind 0 = .ok (.iload_n 2, 1) := by decide +kernel
theorem dX1_behind_1 : decode cX1_behind 1 = .ok (.iconst 1, 1) := by decide +kernel
theorem dX1_behind_2 : decode cX1_behind 2 = .ok (.iadd, 1) := by decide +kernel
theorem dX1_behind_3 : decode cX1_behind 3 = .ok (.istore 4, 2) := by decide +kernel
theorem dX1_behind_5 : decode cX1_behind 5 = .ok (.iload 4, 2) := by decide +kernel
theorem dX1_behind_7 : decode cX1_behind 7 = .ok (.iload_n 3, 1) := by decide +kernel
theorem dX1_behind_8 : decode cX1_behind 8 = .ok (.if_icmp .ge 28, 3) := by decide +kernel
theorem dX1_behind_11 : decode cX1_behind 11 = .ok (.aload_n 0, 1) := by decide +kernel
theorem dX1_behind_12 : decode cX1_behind 12 = .ok (.iload_n 1, 1) := by decide +kernel
theorem dX1_behind_13 : decode cX1_behind 13 = .ok (.iload 4, 2) := by decide +kernel
theorem dX1_behind_15 : decode cX1_behind 15 = .ok (.invokevirtual 36, 3) := by decide +kernel
theorem dX1_behind_18 : decode cX1_behind 18 = .ok (.aload_n 0, 1) := by decide +kernel
theorem dX1_behind_19 : decode cX1_behind 19 = .ok (.iload_n 1, 1) := by decide +kernel
theorem dX1_behind_20 : decode cX1_behind 20 = .ok (.iload_n 2, 1) := by decide +kernel
theorem dX1_behind_21 : decode cX1_behind 21 = .ok (.invokevirtual 36, 3) := by decide +kernel
theorem dX1_behind_24 : decode cX1_behind 24 = .ok (.if_icmp .ne 6, 3) := by decide +kernel
theorem dX1_behind_27 : decode cX1_behind 27 = .ok (.iload 4, 2) := by decide +kernel
theorem dX1_behind_29 : decode cX1_behind 29 = .ok (.ireturn, 1) := by decide +kernel
theorem dX1_behind_30 : decode cX1_behind 30 = .ok (.iinc 4 1, 3) := by decide +kernel
theorem dX1_behind_33 : decode cX1_behind 33 = .ok (.goto (-28), 3) := by decide +kernel
theorem dX1_behind_36 : decode cX1_behind 36 = .ok (.iconst (-1), 1) := by decide +kernel
theorem dX1_behind_37 : decode cX1_behind 37 = .ok (.ireturn, 1) := by decide +kernel


def F_X1_behind_b5 (s_o : S1) (x1 : Int32) (x2 : Int32) (x3 : Int32) : Nat → Int32 → Option (Int32)
  | 0, _ => none
  | n + 1, v4 => (if x3 ≤ v4 then some ((-1)) else (F_X1_letter s_o x1 v4).bind fun q_1 => (F_X1_letter s_o x1 x2).bind fun q_2 => (if q_1 = q_2 then some (v4) else nm (v4 + 1) fun v4_3 => (F_X1_behind_b5 s_o x1 x2 x3 n) v4_3))
def F_X1_behind (s_o : S1) (x1 : Int32) (x2 : Int32) (x3 : Int32) : Option (Int32) := nm (x2 + 1) fun v4_4 => F_X1_behind_b5 s_o x1 x2 x3 fu v4_4
def w_X1_behind (o : Nat → Nat) (cB cI cJ cZ : ClassId) (s_o : S1) : va_W := List.flatten [(gX1 o cB cI cJ cZ s_o)]
abbrev rm_X1_behind : Room := { frames := 2, cells := 0, slots := 0, locals := 44 }
set_option maxHeartbeats 4000000 in
set_option maxRecDepth 100000 in
theorem c_X1_behind (l : Launch) (D : gG) (cB cI cJ cZ : ClassId) (o : Nat → Nat) (s_o : S1) (x1 : Int32) (x2 : Int32) (x3 : Int32) (r : Int32) (hf : F_X1_behind s_o x1 x2 x3 = some r) : gM l D (tyL cB cI cJ cZ) yX1_behind cX1_behind 5 (some .int) rm_X1_behind [.ref (o 0), .int x1, .int x2, .int x3] (w_X1_behind o cB cI cJ cZ s_o) (some (.int r)) (w_X1_behind o cB cI cJ cZ s_o) := by
  refine met_of (by decide) (Nat.le_of_ble_eq_true rfl) ?_
  intro p e s m args below meth c A cx hr hA
  show gW p l e rm_X1_behind s m args below meth c D A 5 _ 0 0 _ [(0, .ref (o 0)), (1, .int x1), (2, .int x2), (3, .int x3)] 0 []
  have h5 : ∀ (n : Nat) (v4 : Int32), F_X1_behind_b5 s_o x1 x2 x3 n v4 = some r → gW p l e rm_X1_behind s m args below meth c D A 5 (MQ below (QM D (tyL cB cI cJ cZ) (some (.int r)) (w_X1_behind o cB cI cJ cZ s_o) (w_X1_behind o cB cI cJ cZ s_o) s.heap.size) args s 0 0 A) 0 0 (w_X1_behind o cB cI cJ cZ s_o) [(0, .ref (o 0)), (1, .int x1), (2, .int x2), (3, .int x3), (4, .int v4)] 5 [] := by
    intro n
    induction n with
    | zero => intro v4 hf; rw [F_X1_behind_b5] at hf; cases hf
    | succ n ih =>
      intro v4 hf
      rw [F_X1_behind_b5] at hf
      refine g_il cx 4 dX1_behind_5 rfl ?_
      refine g_iln cx 3 dX1_behind_7 rfl ?_
      refine g_ic_ge (tgt := 36) cx hf dX1_behind_8 rfl (fun hf => ?_) (fun hf => ?_)
      · refine g_ic cx dX1_behind_36 k_icm1 ?_
        exact g_iret (ovf := fun (r : Int32) => (some (.int r))) (wf := fun (r : Int32) => (w_X1_behind o cB cI cJ cZ s_o)) cx hA hr hf rfl rfl dX1_behind_37
      · refine g_aln cx 0 dX1_behind_11 rfl ?_
        refine g_iln cx 1 dX1_behind_12 rfl ?_
        refine g_il cx 4 dX1_behind_13 rfl ?_
        refine ob hf (fun q_1 hq_1 hf => ?_)
        refine g_callVGiR cx lk_RX1_36 (c_X1_letter l D cB cI cJ cZ o s_o x1 v4 q_1 hq_1) rfl [0] rfl rfl (ci := 1) (q1 := 0) rfl rfl rfl (Nat.le_of_ble_eq_true rfl) ⟨rfl, rfl, Nat.le_of_ble_eq_true rfl, Nat.le_of_ble_eq_true rfl⟩ dX1_behind_15 ?_
        refine g_aln cx 0 dX1_behind_18 rfl ?_
        refine g_iln cx 1 dX1_behind_19 rfl ?_
        refine g_iln cx 2 dX1_behind_20 rfl ?_
        refine ob hf (fun q_2 hq_2 hf => ?_)
        refine g_callVGiR cx lk_RX1_36 (c_X1_letter l D cB cI cJ cZ o s_o x1 x2 q_2 hq_2) rfl [0] rfl rfl (ci := 1) (q1 := 0) rfl rfl rfl (Nat.le_of_ble_eq_true rfl) ⟨rfl, rfl, Nat.le_of_ble_eq_true rfl, Nat.le_of_ble_eq_true rfl⟩ dX1_behind_21 ?_
        refine g_ic_ne (tgt := 30) cx hf dX1_behind_24 rfl (fun hf => ?_) (fun hf => ?_)
        · refine g_inc cx (L2 := fun v4_3 => [(4, .int v4_3), (0, .ref (o 0)), (1, .int x1), (2, .int x2), (3, .int x3)]) 4 hf dX1_behind_30 rfl (k_inc1 _) (Nat.le_of_ble_eq_true rfl) (fun _ => rfl) (fun v4_3 hf => ?_)
          refine g_goto (tgt := 5) cx dX1_behind_33 rfl ?_
          refine g_sub [1, 2, 3, 4, 0] rfl ?_
          exact ih _ hf
        · refine g_il cx 4 dX1_behind_27 rfl ?_
          exact g_iret (ovf := fun (r : Int32) => (some (.int r))) (wf := fun (r : Int32) => (w_X1_behind o cB cI cJ cZ s_o)) cx hA hr hf rfl rfl dX1_behind_29
  rw [F_X1_behind] at hf
  refine g_iln cx 2 dX1_behind_0 rfl ?_
  refine g_ic cx dX1_behind_1 k_ic1 ?_
  refine g_iadd cx dX1_behind_2 ?_
  refine g_is cx (L2 := fun v4_4 => [(4, .int v4_4), (0, .ref (o 0)), (1, .int x1), (2, .int x2), (3, .int x3)]) hf dX1_behind_3 (Nat.le_of_ble_eq_true rfl) (fun _ => rfl) (fun v4_4 hf => ?_)
  refine g_sub [1, 2, 3, 4, 0] rfl ?_
  exact h5 fu _ hf
theorem dX1_pairs_0 : decode cX1_pairs 0 = .ok (.iconst 0, 1) := by decide +kernel
theorem dX1_pairs_1 : decode cX1_pairs 1 = .ok (.istore_n 3, 1) := by decide +kernel
theorem dX1_pairs_2 : decode cX1_pairs 2 = .ok (.iload_n 3, 1) := by decide +kernel
theorem dX1_pairs_3 : decode cX1_pairs 3 = .ok (.iload_n 2, 1) := by decide +kernel
theorem dX1_pairs_4 : decode cX1_pairs 4 = .ok (.if_icmp .ge 30, 3) := by decide +kernel
theorem dX1_pairs_7 : decode cX1_pairs 7 = .ok (.aload_n 0, 1) := by decide +kernel
theorem dX1_pairs_8 : decode cX1_pairs 8 = .ok (.iload_n 1, 1) := by decide +kernel
theorem dX1_pairs_9 : decode cX1_pairs 9 = .ok (.iload_n 3, 1) := by decide +kernel
theorem dX1_pairs_10 : decode cX1_pairs 10 = .ok (.invokevirtual 40, 3) := by decide +kernel
theorem dX1_pairs_13 : decode cX1_pairs 13 = .ok (.ifCond .ge 15, 3) := by decide +kernel
theorem dX1_pairs_16 : decode cX1_pairs 16 = .ok (.aload_n 0, 1) := by decide +kernel
theorem dX1_pairs_17 : decode cX1_pairs 17 = .ok (.iload_n 1, 1) := by decide +kernel
theorem dX1_pairs_18 : decode cX1_pairs 18 = .ok (.iload_n 3, 1) := by decide +kernel
theorem dX1_pairs_19 : decode cX1_pairs 19 = .ok (.iload_n 2, 1) := by decide +kernel
theorem dX1_pairs_20 : decode cX1_pairs 20 = .ok (.invokevirtual 43, 3) := by decide +kernel
theorem dX1_pairs_23 : decode cX1_pairs 23 = .ok (.ifCond .ge 5, 3) := by decide +kernel
theorem dX1_pairs_26 : decode cX1_pairs 26 = .ok (.iconst 0, 1) := by decide +kernel
theorem dX1_pairs_27 : decode cX1_pairs 27 = .ok (.ireturn, 1) := by decide +kernel
theorem dX1_pairs_28 : decode cX1_pairs 28 = .ok (.iinc 3 1, 3) := by decide +kernel
theorem dX1_pairs_31 : decode cX1_pairs 31 = .ok (.goto (-29), 3) := by decide +kernel
theorem dX1_pairs_34 : decode cX1_pairs 34 = .ok (.iload_n 2, 1) := by decide +kernel
theorem dX1_pairs_35 : decode cX1_pairs 35 = .ok (.ifCond .le 7, 3) := by decide +kernel
theorem dX1_pairs_38 : decode cX1_pairs 38 = .ok (.iconst 1, 1) := by decide +kernel
theorem dX1_pairs_39 : decode cX1_pairs 39 = .ok (.goto 4, 3) := by decide +kernel
theorem dX1_pairs_42 : decode cX1_pairs 42 = .ok (.iconst 0, 1) := by decide +kernel
theorem dX1_pairs_43 : decode cX1_pairs 43 = .ok (.ireturn, 1) := by decide +kernel
theorem q3_233 : Cond.methodLink RX1 40 yX1_ahead ∈ TT := tq3 233 rfl rfl
theorem q3_234 : Cond.instanceMethod yX1_ahead ∈ TT := tq3 234 rfl rfl
theorem q3_235 : Cond.selects RX1 yX1_ahead yX1_ahead ∈ TT := tq3 235 rfl rfl
theorem q3_236 : Cond.code yX1_ahead cX1_ahead 4 (some .int) ∈ TT := tq3 236 rfl rfl
theorem q3_238 : Cond.methodLink RX1 43 yX1_behind ∈ TT := tq3 238 rfl rfl
theorem q3_239 : Cond.instanceMethod yX1_behind ∈ TT := tq3 239 rfl rfl
theorem q4_0 : Cond.selects RX1 yX1_behind yX1_behind ∈ TT := tq4 0 rfl rfl
theorem q4_1 : Cond.code yX1_behind cX1_behind 5 (some .int) ∈ TT := tq4 1 rfl rfl
theorem lk_RX1_40 : vlk RX1 40 yX1_ahead cX1_ahead 4 (some .int) 2 := ⟨List.forall_mem_cons.mpr ⟨q3_233, List.forall_mem_cons.mpr ⟨q3_234, List.forall_mem_cons.mpr ⟨q3_235, List.forall_mem_cons.mpr ⟨q1_11, fun _ h => absurd h List.not_mem_nil⟩⟩⟩⟩, q3_236, by decide, by decide, by decide +kernel⟩
theorem lk_RX1_43 : vlk RX1 43 yX1_behind cX1_behind 5 (some .int) 3 := ⟨List.forall_mem_cons.mpr ⟨q3_238, List.forall_mem_cons.mpr ⟨q3_239, List.forall_mem_cons.mpr ⟨q4_0, List.forall_mem_cons.mpr ⟨q1_11, fun _ h => absurd h List.not_mem_nil⟩⟩⟩⟩, q4_1, by decide, by decide, by decide +kernel⟩
def F_X1_pairs_b28 (s_o : S1) (x1 : Int32) (x2 : Int32) (K2 : Int32 → Option (Int32)) (v3 : Int32) : Option (Int32) := nm (v3 + 1) fun v3_1 => K2 v3_1
def F_X1_pairs_b2 (s_o : S1) (x1 : Int32) (x2 : Int32) : Nat → Int32 → Option (Int32)
  | 0, _ => none
  | n + 1, v3 => (if x2 ≤ v3 then (if x2 ≤ 0 then some (0) else some (1)) else (F_X1_ahead s_o x1 v3).bind fun q_2 => (if 0 ≤ q_2 then F_X1_pairs_b28 s_o x1 x2 (F_X1_pairs_b2 s_o x1 x2 n) v3 else (F_X1_behind s_o x1 v3 x2).bind fun q_3 => (if 0 ≤ q_3 then F_X1_pairs_b28 s_o x1 x2 (F_X1_pairs_b2 s_o x1 x2 n) v3 else some (0))))
def F_X1_pairs (s_o : S1) (x1 : Int32) (x2 : Int32) : Option (Int32) := nm 0 fun v3_4 => F_X1_pairs_b2 s_o x1 x2 fu v3_4
def w_X1_pairs (o : Nat → Nat) (cB cI cJ cZ : ClassId) (s_o : S1) : va_W := List.flatten [(gX1 o cB cI cJ cZ s_o)]
abbrev rm_X1_pairs : Room := { frames := 3, cells := 0, slots := 0, locals := 68 }
set_option maxHeartbeats 4000000 in
set_option maxRecDepth 100000 in
theorem c_X1_pairs (l : Launch) (D : gG) (cB cI cJ cZ : ClassId) (o : Nat → Nat) (s_o : S1) (x1 : Int32) (x2 : Int32) (r : Int32) (hf : F_X1_pairs s_o x1 x2 = some r) : gM l D (tyL cB cI cJ cZ) yX1_pairs cX1_pairs 4 (some .boolean) rm_X1_pairs [.ref (o 0), .int x1, .int x2] (w_X1_pairs o cB cI cJ cZ s_o) (some (.int r)) (w_X1_pairs o cB cI cJ cZ s_o) := by
  refine met_of (by decide) (Nat.le_of_ble_eq_true rfl) ?_
  intro p e s m args below meth c A cx hr hA
  show gW p l e rm_X1_pairs s m args below meth c D A 4 _ 0 0 _ [(0, .ref (o 0)), (1, .int x1), (2, .int x2)] 0 []
  have h28 : ∀ (K2 : Int32 → Option (Int32)), (∀ (v3 : Int32), K2 v3 = some r → gW p l e rm_X1_pairs s m args below meth c D A 4 (MQ below (QM D (tyL cB cI cJ cZ) (some (.int r)) (w_X1_pairs o cB cI cJ cZ s_o) (w_X1_pairs o cB cI cJ cZ s_o) s.heap.size) args s 0 0 A) 0 0 (w_X1_pairs o cB cI cJ cZ s_o) [(0, .ref (o 0)), (1, .int x1), (2, .int x2), (3, .int v3)] 2 []) → ∀ (v3 : Int32), F_X1_pairs_b28 s_o x1 x2 K2 v3 = some r → gW p l e rm_X1_pairs s m args below meth c D A 4 (MQ below (QM D (tyL cB cI cJ cZ) (some (.int r)) (w_X1_pairs o cB cI cJ cZ s_o) (w_X1_pairs o cB cI cJ cZ s_o) s.heap.size) args s 0 0 A) 0 0 (w_X1_pairs o cB cI cJ cZ s_o) [(0, .ref (o 0)), (1, .int x1), (2, .int x2), (3, .int v3)] 28 [] := by
    intro K2 kh2 v3 hf
    rw [F_X1_pairs_b28] at hf
    refine g_inc cx (L2 := fun v3_1 => [(3, .int v3_1), (0, .ref (o 0)), (1, .int x1), (2, .int x2)]) 3 hf dX1_pairs_28 rfl (k_inc1 _) (Nat.le_of_ble_eq_true rfl) (fun _ => rfl) (fun v3_1 hf => ?_)
    refine g_goto (tgt := 2) cx dX1_pairs_31 rfl ?_
    refine g_sub [1, 2, 3, 0] rfl ?_
    exact kh2 _ hf
  have h2 : ∀ (n : Nat) (v3 : Int32), F_X1_pairs_b2 s_o x1 x2 n v3 = some r → gW p l e rm_X1_pairs s m args below meth c D A 4 (MQ below (QM D (tyL cB cI cJ cZ) (some (.int r)) (w_X1_pairs o cB cI cJ cZ s_o) (w_X1_pairs o cB cI cJ cZ s_o) s.heap.size) args s 0 0 A) 0 0 (w_X1_pairs o cB cI cJ cZ s_o) [(0, .ref (o 0)), (1, .int x1), (2, .int x2), (3, .int v3)] 2 [] := by
    intro n
    induction n with
    | zero => intro v3 hf; rw [F_X1_pairs_b2] at hf; cases hf
    | succ n ih =>
      intro v3 hf
      rw [F_X1_pairs_b2] at hf
      refine g_iln cx 3 dX1_pairs_2 rfl ?_
      refine g_iln cx 2 dX1_pairs_3 rfl ?_
      refine g_ic_ge (tgt := 34) cx hf dX1_pairs_4 rfl (fun hf => ?_) (fun hf => ?_)
      · refine g_iln cx 2 dX1_pairs_34 rfl ?_
        refine g_if_le (tgt := 42) cx hf dX1_pairs_35 rfl (fun hf => ?_) (fun hf => ?_)
        · refine g_ic cx dX1_pairs_42 k_ic0 ?_
          exact g_zret (ovf := fun (r : Int32) => (some (.int r))) (wf := fun (r : Int32) => (w_X1_pairs o cB cI cJ cZ s_o)) cx hA hr rfl hf rfl rfl dX1_pairs_43
        · refine g_ic cx dX1_pairs_38 k_ic1 ?_
          refine g_goto (tgt := 43) cx dX1_pairs_39 rfl ?_
          exact g_zret (ovf := fun (r : Int32) => (some (.int r))) (wf := fun (r : Int32) => (w_X1_pairs o cB cI cJ cZ s_o)) cx hA hr rfl hf rfl rfl dX1_pairs_43
      · refine g_aln cx 0 dX1_pairs_7 rfl ?_
        refine g_iln cx 1 dX1_pairs_8 rfl ?_
        refine g_iln cx 3 dX1_pairs_9 rfl ?_
        refine ob hf (fun q_2 hq_2 hf => ?_)
        refine g_callVGiR cx lk_RX1_40 (c_X1_ahead l D cB cI cJ cZ o s_o x1 v3 q_2 hq_2) rfl [0] rfl rfl (ci := 1) (q1 := 0) rfl rfl rfl (Nat.le_of_ble_eq_true rfl) ⟨rfl, rfl, Nat.le_of_ble_eq_true rfl, Nat.le_of_ble_eq_true rfl⟩ dX1_pairs_10 ?_
        refine g_if_ge (tgt := 28) cx hf dX1_pairs_13 rfl (fun hf => ?_) (fun hf => ?_)
        · exact h28 _ ih _ hf
        · refine g_aln cx 0 dX1_pairs_16 rfl ?_
          refine g_iln cx 1 dX1_pairs_17 rfl ?_
          refine g_iln cx 3 dX1_pairs_18 rfl ?_
          refine g_iln cx 2 dX1_pairs_19 rfl ?_
          refine ob hf (fun q_3 hq_3 hf => ?_)
          refine g_callVGiR cx lk_RX1_43 (c_X1_behind l D cB cI cJ cZ o s_o x1 v3 x2 q_3 hq_3) rfl [0] rfl rfl (ci := 1) (q1 := 0) rfl rfl rfl (Nat.le_of_ble_eq_true rfl) ⟨rfl, rfl, Nat.le_of_ble_eq_true rfl, Nat.le_of_ble_eq_true rfl⟩ dX1_pairs_20 ?_
          refine g_if_ge (tgt := 28) cx hf dX1_pairs_23 rfl (fun hf => ?_) (fun hf => ?_)
          · exact h28 _ ih _ hf
          · refine g_ic cx dX1_pairs_26 k_ic0 ?_
            exact g_zret (ovf := fun (r : Int32) => (some (.int r))) (wf := fun (r : Int32) => (w_X1_pairs o cB cI cJ cZ s_o)) cx hA hr rfl hf rfl rfl dX1_pairs_27
  rw [F_X1_pairs] at hf
  refine g_ic cx dX1_pairs_0 k_ic0 ?_
  refine g_isn cx (L2 := fun v3_4 => [(3, .int v3_4), (0, .ref (o 0)), (1, .int x1), (2, .int x2)]) hf dX1_pairs_1 (Nat.le_of_ble_eq_true rfl) (fun _ => rfl) (fun v3_4 hf => ?_)
  refine g_sub [1, 2, 3, 0] rfl ?_
  exact h2 fu _ hf
theorem dX7_wipe_0 : decode cX7_wipe 0 = .ok (.aload_n 0, 1) := by decide +kernel
theorem dX7_wipe_1 : decode cX7_wipe 1 = .ok (.getfield 12, 3) := by decide +kernel
theorem dX7_wipe_4 : decode cX7_wipe 4 = .ok (.invokevirtual 41, 3) := by decide +kernel
theorem dX7_wipe_7 : decode cX7_wipe 7 = .ok (.aload_n 0, 1) := by decide +kernel
theorem dX7_wipe_8 : decode cX7_wipe 8 = .ok (.getfield 21, 3) := by decide +kernel
theorem dX7_wipe_11 : decode cX7_wipe 11 = .ok (.invokevirtual 44, 3) := by decide +kernel
theorem dX7_wipe_14 : decode cX7_wipe 14 = .ok (.aload_n 0, 1) := by decide +kernel
theorem dX7_wipe_15 : decode cX7_wipe 15 = .ok (.getfield 30, 3) := by decide +kernel
theorem dX7_wipe_18 : decode cX7_wipe 18 = .ok (.invokevirtual 45, 3) := by decide +kernel
theorem dX7_wipe_21 : decode cX7_wipe 21 = .ok (.aload_n 0, 1) := by decide +kernel
theorem dX7_wipe_22 : decode cX7_wipe 22 = .ok (.getfield 34, 3) := by decide +kernel
theorem dX7_wipe_25 : decode cX7_wipe 25 = .ok (.invokevirtual 45, 3) := by decide +kernel
theorem dX7_wipe_28 : decode cX7_wipe 28 = .ok (.aload_n 0, 1) := by decide +kernel
theorem dX7_wipe_29 : decode cX7_wipe 29 = .ok (.getfield 37, 3) := by decide +kernel
theorem dX7_wipe_32 : decode cX7_wipe 32 = .ok (.iconst 0, 1) := by decide +kernel
theorem dX7_wipe_33 : decode cX7_wipe 33 = .ok (.invokestatic 46, 3) := by decide +kernel
theorem dX7_wipe_36 : decode cX7_wipe 36 = .ok (.return_, 1) := by decide +kernel
theorem q1_14 : Cond.initialized RJ7 ∈ TT := tq1 14 rfl rfl
theorem q1_197 : Cond.fieldLink RX7 12 "RhymeLaw$Tale" "words" "LRhymeLaw$Words;" ∈ TT := tq1 197 rfl rfl
theorem q1_204 : Cond.fieldLink RX7 21 "RhymeLaw$Tale" "forms" "LRhymeLaw$Forms;" ∈ TT := tq1 204 rfl rfl
theorem q1_211 : Cond.fieldLink RX7 30 "RhymeLaw$Tale" "paper" "LRhymeLaw$Paper;" ∈ TT := tq1 211 rfl rfl
theorem q1_216 : Cond.fieldLink RX7 34 "RhymeLaw$Tale" "stock" "LRhymeLaw$Paper;" ∈ TT := tq1 216 rfl rfl
theorem q1_220 : Cond.fieldLink RX7 37 "RhymeLaw$Tale" "metres" "[I" ∈ TT := tq1 220 rfl rfl
theorem q2_60 : Cond.methodLink RX7 41 yX10_wipe ∈ TT := tq2 60 rfl rfl
theorem q2_61 : Cond.instanceMethod yX10_wipe ∈ TT := tq2 61 rfl rfl
theorem q2_62 : Cond.selects RX10 yX10_wipe yX10_wipe ∈ TT := tq2 62 rfl rfl
theorem q2_63 : Cond.code yX10_wipe cX10_wipe 1 none ∈ TT := tq2 63 rfl rfl
theorem q2_64 : Cond.methodLink RX7 44 yX1_wipe ∈ TT := tq2 64 rfl rfl
theorem q2_65 : Cond.instanceMethod yX1_wipe ∈ TT := tq2 65 rfl rfl
theorem q2_66 : Cond.selects RX1 yX1_wipe yX1_wipe ∈ TT := tq2 66 rfl rfl
theorem q2_67 : Cond.code yX1_wipe cX1_wipe 1 none ∈ TT := tq2 67 rfl rfl
theorem q2_68 : Cond.methodLink RX7 45 yX4_wipe ∈ TT := tq2 68 rfl rfl
theorem q2_69 : Cond.instanceMethod yX4_wipe ∈ TT := tq2 69 rfl rfl
theorem q2_70 : Cond.selects RX4 yX4_wipe yX4_wipe ∈ TT := tq2 70 rfl rfl
theorem q2_71 : Cond.code yX4_wipe cX4_wipe 1 none ∈ TT := tq2 71 rfl rfl
theorem q2_72 : Cond.methodLink RX7 46 yJ7_fill_53178 ∈ TT := tq2 72 rfl rfl
theorem q2_73 : Cond.static yJ7_fill_53178 ∈ TT := tq2 73 rfl rfl
theorem q2_74 : Cond.code yJ7_fill_53178 cJ7_fill_53178 4 none ∈ TT := tq2 74 rfl rfl
theorem fg_RX7_12 {p : Program} {l : Launch} {e : Env} {R : Room} {s : State} {m : MethodId} {args : Array Value} {below : List Frame} {meth : Method} {c : Code} {D : gG} {tys : List (ClassId × FieldType)} {A : Nat → Prop} {nL : Nat} {Q : State → Prop} {cells slots : Nat} {cc : ByteArray} {ws : va_W} {L : List (Nat × Value)} {pc : Nat} {stk : List Value} (cx : gX p s m args meth c cc nL RX7 D tys A) {a : Nat} {fs : List Value} {v : Value} (q0 : Nat) (he : ws[q0]? = some (a, .inr (5, fs))) (hv : fs[0]? = some v) (hd : decode cc pc = .ok (.getfield 12, 3)) (kk : gW p l e R s m args below meth c D A nL Q cells slots ws L (pc + 3) (v :: stk)) : gW p l e R s m args below meth c D A nL Q cells slots ws L pc (.ref a :: stk) :=
  g_get cx (C := RX7) (T := TX7) (N := 5) inT7 rfl 0 (Nat.le_of_ble_eq_true rfl) q1_197 rfl q0 he hv hd kk
theorem lk_RX7_41 : vlk RX7 41 yX10_wipe cX10_wipe 1 none 0 := ⟨List.forall_mem_cons.mpr ⟨q2_60, List.forall_mem_cons.mpr ⟨q2_61, List.forall_mem_cons.mpr ⟨q2_62, List.forall_mem_cons.mpr ⟨q1_10, fun _ h => absurd h List.not_mem_nil⟩⟩⟩⟩, q2_63, by decide, by decide, by decide +kernel⟩
theorem fg_RX7_21 {p : Program} {l : Launch} {e : Env} {R : Room} {s : State} {m : MethodId} {args : Array Value} {below : List Frame} {meth : Method} {c : Code} {D : gG} {tys : List (ClassId × FieldType)} {A : Nat → Prop} {nL : Nat} {Q : State → Prop} {cells slots : Nat} {cc : ByteArray} {ws : va_W} {L : List (Nat × Value)} {pc : Nat} {stk : List Value} (cx : gX p s m args meth c cc nL RX7 D tys A) {a : Nat} {fs : List Value} {v : Value} (q0 : Nat) (he : ws[q0]? = some (a, .inr (5, fs))) (hv : fs[1]? = some v) (hd : decode cc pc = .ok (.getfield 21, 3)) (kk : gW p l e R s m args below meth c D A nL Q cells slots ws L (pc + 3) (v :: stk)) : gW p l e R s m args below meth c D A nL Q cells slots ws L pc (.ref a :: stk) :=
  g_get cx (C := RX7) (T := TX7) (N := 5) inT7 rfl 1 (Nat.le_of_ble_eq_true rfl) q1_204 rfl q0 he hv hd kk
theorem lk_RX7_44 : vlk RX7 44 yX1_wipe cX1_wipe 1 none 0 := ⟨List.forall_mem_cons.mpr ⟨q2_64, List.forall_mem_cons.mpr ⟨q2_65, List.forall_mem_cons.mpr ⟨q2_66, List.forall_mem_cons.mpr ⟨q1_11, fun _ h => absurd h List.not_mem_nil⟩⟩⟩⟩, q2_67, by decide, by decide, by decide +kernel⟩
theorem fg_RX7_30 {p : Program} {l : Launch} {e : Env} {R : Room} {s : State} {m : MethodId} {args : Array Value} {below : List Frame} {meth : Method} {c : Code} {D : gG} {tys : List (ClassId × FieldType)} {A : Nat → Prop} {nL : Nat} {Q : State → Prop} {cells slots : Nat} {cc : ByteArray} {ws : va_W} {L : List (Nat × Value)} {pc : Nat} {stk : List Value} (cx : gX p s m args meth c cc nL RX7 D tys A) {a : Nat} {fs : List Value} {v : Value} (q0 : Nat) (he : ws[q0]? = some (a, .inr (5, fs))) (hv : fs[2]? = some v) (hd : decode cc pc = .ok (.getfield 30, 3)) (kk : gW p l e R s m args below meth c D A nL Q cells slots ws L (pc + 3) (v :: stk)) : gW p l e R s m args below meth c D A nL Q cells slots ws L pc (.ref a :: stk) :=
  g_get cx (C := RX7) (T := TX7) (N := 5) inT7 rfl 2 (Nat.le_of_ble_eq_true rfl) q1_211 rfl q0 he hv hd kk
theorem lk_RX7_45 : vlk RX7 45 yX4_wipe cX4_wipe 1 none 0 := ⟨List.forall_mem_cons.mpr ⟨q2_68, List.forall_mem_cons.mpr ⟨q2_69, List.forall_mem_cons.mpr ⟨q2_70, List.forall_mem_cons.mpr ⟨q1_4, fun _ h => absurd h List.not_mem_nil⟩⟩⟩⟩, q2_71, by decide, by decide, by decide +kernel⟩
theorem fg_RX7_34 {p : Program} {l : Launch} {e : Env} {R : Room} {s : State} {m : MethodId} {args : Array Value} {below : List Frame} {meth : Method} {c : Code} {D : gG} {tys : List (ClassId × FieldType)} {A : Nat → Prop} {nL : Nat} {Q : State → Prop} {cells slots : Nat} {cc : ByteArray} {ws : va_W} {L : List (Nat × Value)} {pc : Nat} {stk : List Value} (cx : gX p s m args meth c cc nL RX7 D tys A) {a : Nat} {fs : List Value} {v : Value} (q0 : Nat) (he : ws[q0]? = some (a, .inr (5, fs))) (hv : fs[3]? = some v) (hd : decode cc pc = .ok (.getfield 34, 3)) (kk : gW p l e R s m args below meth c D A nL Q cells slots ws L (pc + 3) (v :: stk)) : gW p l e R s m args below meth c D A nL Q cells slots ws L pc (.ref a :: stk) :=
  g_get cx (C := RX7) (T := TX7) (N := 5) inT7 rfl 3 (Nat.le_of_ble_eq_true rfl) q1_216 rfl q0 he hv hd kk
theorem fg_RX7_37 {p : Program} {l : Launch} {e : Env} {R : Room} {s : State} {m : MethodId} {args : Array Value} {below : List Frame} {meth : Method} {c : Code} {D : gG} {tys : List (ClassId × FieldType)} {A : Nat → Prop} {nL : Nat} {Q : State → Prop} {cells slots : Nat} {cc : ByteArray} {ws : va_W} {L : List (Nat × Value)} {pc : Nat} {stk : List Value} (cx : gX p s m args meth c cc nL RX7 D tys A) {a : Nat} {fs : List Value} {v : Value} (q0 : Nat) (he : ws[q0]? = some (a, .inr (5, fs))) (hv : fs[4]? = some v) (hd : decode cc pc = .ok (.getfield 37, 3)) (kk : gW p l e R s m args below meth c D A nL Q cells slots ws L (pc + 3) (v :: stk)) : gW p l e R s m args below meth c D A nL Q cells slots ws L pc (.ref a :: stk) :=
  g_get cx (C := RX7) (T := TX7) (N := 5) inT7 rfl 4 (Nat.le_of_ble_eq_true rfl) q1_220 rfl q0 he hv hd kk
theorem lk_RX7_46 : slk RX7 46 yJ7_fill_53178 cJ7_fill_53178 4 none 2 := ⟨List.forall_mem_cons.mpr ⟨q2_72, List.forall_mem_cons.mpr ⟨q2_73, List.forall_mem_cons.mpr ⟨q1_14, fun _ h => absurd h List.not_mem_nil⟩⟩⟩, q2_74, by decide, by decide, by decide +kernel⟩
def F_X7_wipe (s_o : S7) (s_o_forms : S1) (s_o_paper : S4) (s_o_stock : S4) (s_o_words : S10) : Option (S7 × S1 × S4 × S4 × S10) := (F_X10_wipe s_o_words).bind fun q_1 => (F_X1_wipe s_o_forms).bind fun q_2 => (F_X4_wipe s_o_paper).bind fun q_3 => (F_X4_wipe s_o_stock).bind fun q_4 => (F_J7_fill_53178 8 (s7_metres s_o) 0).bind fun q_5 => some ((u7_metres s_o q_5), q_2, q_3, q_4, q_1)
def w_X7_wipe (o o_forms o_paper o_stock o_words : Nat → Nat) (cB cI cJ cZ : ClassId) (s_o : S7) (s_o_forms : S1) (s_o_paper : S4) (s_o_stock : S4) (s_o_words : S10) : va_W := List.flatten [(gX7 o cB cI cJ cZ (o_words 0) (o_forms 0) (o_paper 0) (o_stock 0) s_o), (gX1 o_forms cB cI cJ cZ s_o_forms), (gX4 o_paper cB cI cJ cZ s_o_paper), (gX4 o_stock cB cI cJ cZ s_o_stock), (gX10 o_words cB cI cJ cZ s_o_words)]
abbrev rm_X7_wipe : Room := { frames := 1, cells := 0, slots := 0, locals := 23 }
set_option maxHeartbeats 4000000 in
set_option maxRecDepth 100000 in
theorem c_X7_wipe (l : Launch) (D : gG) (cB cI cJ cZ : ClassId) (o o_forms o_paper o_stock o_words : Nat → Nat) (s_o : S7) (s_o_forms : S1) (s_o_paper : S4) (s_o_stock : S4) (s_o_words : S10) (r : S7 × S1 × S4 × S4 × S10) (hf : F_X7_wipe s_o s_o_forms s_o_paper s_o_stock s_o_words = some r) : gM l D (tyL cB cI cJ cZ) yX7_wipe cX7_wipe 1 none rm_X7_wipe [.ref (o 0)] (w_X7_wipe o o_forms o_paper o_stock o_words cB cI cJ cZ s_o s_o_forms s_o_paper s_o_stock s_o_words) none (w_X7_wipe o o_forms o_paper o_stock o_words cB cI cJ cZ r.1 r.2.1 r.2.2.1 r.2.2.2.1 r.2.2.2.2) := by
  refine met_of (by decide) (Nat.le_of_ble_eq_true rfl) ?_
  intro p e s m args below meth c A cx hr hA
  show gW p l e rm_X7_wipe s m args below meth c D A 1 _ 0 0 _ [(0, .ref (o 0))] 0 []
  rw [F_X7_wipe] at hf
  refine g_aln cx 0 dX7_wipe_0 rfl ?_
  refine fg_RX7_12 cx 0 rfl rfl dX7_wipe_1 ?_
  refine ob hf (fun q_1 hq_1 hf => ?_)
  refine g_callVGv (gs' := [(gX7 o cB cI cJ cZ (o_words 0) (o_forms 0) (o_paper 0) (o_stock 0) s_o), (gX1 o_forms cB cI cJ cZ s_o_forms), (gX4 o_paper cB cI cJ cZ s_o_paper), (gX4 o_stock cB cI cJ cZ s_o_stock), (gX10 o_words cB cI cJ cZ q_1)]) cx lk_RX7_41 (c_X10_wipe l D cB cI cJ cZ o_words s_o_words q_1 hq_1) rfl [4] rfl rfl rfl rfl (ci := 8) (q1 := 0) rfl rfl rfl (Nat.le_of_ble_eq_true rfl) ⟨rfl, rfl, Nat.le_of_ble_eq_true rfl, Nat.le_of_ble_eq_true rfl⟩ dX7_wipe_4 ?_
  refine g_aln cx 0 dX7_wipe_7 rfl ?_
  refine fg_RX7_21 cx 0 rfl rfl dX7_wipe_8 ?_
  refine ob hf (fun q_2 hq_2 hf => ?_)
  refine g_callVGv (gs' := [(gX7 o cB cI cJ cZ (o_words 0) (o_forms 0) (o_paper 0) (o_stock 0) s_o), (gX1 o_forms cB cI cJ cZ q_2), (gX4 o_paper cB cI cJ cZ s_o_paper), (gX4 o_stock cB cI cJ cZ s_o_stock), (gX10 o_words cB cI cJ cZ q_1)]) cx lk_RX7_44 (c_X1_wipe l D cB cI cJ cZ o_forms s_o_forms q_2 hq_2) rfl [1] rfl rfl rfl rfl (ci := 1) (q1 := 0) rfl rfl rfl (Nat.le_of_ble_eq_true rfl) ⟨rfl, rfl, Nat.le_of_ble_eq_true rfl, Nat.le_of_ble_eq_true rfl⟩ dX7_wipe_11 ?_
  refine g_aln cx 0 dX7_wipe_14 rfl ?_
  refine fg_RX7_30 cx 0 rfl rfl dX7_wipe_15 ?_
  refine ob hf (fun q_3 hq_3 hf => ?_)
  refine g_callVGv (gs' := [(gX7 o cB cI cJ cZ (o_words 0) (o_forms 0) (o_paper 0) (o_stock 0) s_o), (gX1 o_forms cB cI cJ cZ q_2), (gX4 o_paper cB cI cJ cZ q_3), (gX4 o_stock cB cI cJ cZ s_o_stock), (gX10 o_words cB cI cJ cZ q_1)]) cx lk_RX7_45 (c_X4_wipe l D cB cI cJ cZ o_paper s_o_paper q_3 hq_3) rfl [2] rfl rfl rfl rfl (ci := 4) (q1 := 0) rfl rfl rfl (Nat.le_of_ble_eq_true rfl) ⟨rfl, rfl, Nat.le_of_ble_eq_true rfl, Nat.le_of_ble_eq_true rfl⟩ dX7_wipe_18 ?_
  refine g_aln cx 0 dX7_wipe_21 rfl ?_
  refine fg_RX7_34 cx 0 rfl rfl dX7_wipe_22 ?_
  refine ob hf (fun q_4 hq_4 hf => ?_)
  refine g_callVGv (gs' := [(gX7 o cB cI cJ cZ (o_words 0) (o_forms 0) (o_paper 0) (o_stock 0) s_o), (gX1 o_forms cB cI cJ cZ q_2), (gX4 o_paper cB cI cJ cZ q_3), (gX4 o_stock cB cI cJ cZ q_4), (gX10 o_words cB cI cJ cZ q_1)]) cx lk_RX7_45 (c_X4_wipe l D cB cI cJ cZ o_stock s_o_stock q_4 hq_4) rfl [3] rfl rfl rfl rfl (ci := 4) (q1 := 0) rfl rfl rfl (Nat.le_of_ble_eq_true rfl) ⟨rfl, rfl, Nat.le_of_ble_eq_true rfl, Nat.le_of_ble_eq_true rfl⟩ dX7_wipe_25 ?_
  refine g_aln cx 0 dX7_wipe_28 rfl ?_
  refine fg_RX7_37 cx 0 rfl rfl dX7_wipe_29 ?_
  refine g_ic cx dX7_wipe_32 k_ic0 ?_
  refine ob hf (fun q_5 hq_5 hf => ?_)
  refine g_callSv cx lk_RX7_46 (c_J7_fill_53178 l D cB cI cJ cZ (o 1) 8 (s7_metres s_o) 0 q_5 hq_5) rfl [1] rfl rfl (ws' := (w_X7_wipe o o_forms o_paper o_stock o_words cB cI cJ cZ (u7_metres s_o q_5) q_2 q_3 q_4 q_1)) rfl rfl rfl (Nat.le_of_ble_eq_true rfl) ⟨rfl, rfl, Nat.le_of_ble_eq_true rfl, Nat.le_of_ble_eq_true rfl⟩ dX7_wipe_33 ?_
  exact g_vret (ovf := fun (r : S7 × S1 × S4 × S4 × S10) => none) (wf := fun (r : S7 × S1 × S4 × S4 × S10) => (w_X7_wipe o o_forms o_paper o_stock o_words cB cI cJ cZ r.1 r.2.1 r.2.2.1 r.2.2.2.1 r.2.2.2.2)) cx hA hr hf rfl rfl dX7_wipe_36
theorem dX7_metreOf_0 : decode cX7_metreOf 0 = .ok (.aload_n 0, 1) := by decide +kernel
theorem dX7_metreOf_1 : decode cX7_metreOf 1 = .ok (.getfield 37, 3) := by decide +kernel
theorem dX7_metreOf_4 : decode cX7_metreOf 4 = .ok (.iload_n 1, 1) := by decide +kernel
theorem dX7_metreOf_5 : decode cX7_metreOf 5 = .ok (.invokestatic 52, 3) := by decide +kernel
theorem dX7_metreOf_8 : decode cX7_metreOf 8 = .ok (.ireturn, 1) := by decide +kernel
theorem q3_64 : Cond.methodLink RX7 52 yX6_at ∈ TT := tq3 64 rfl rfl
theorem lk_RX7_52 : slk RX7 52 yX6_at cX6_at 2 (some .int) 2 := ⟨List.forall_mem_cons.mpr ⟨q3_64, List.forall_mem_cons.mpr ⟨q2_207, List.forall_mem_cons.mpr ⟨q1_19, fun _ h => absurd h List.not_mem_nil⟩⟩⟩, q2_208, by decide, by decide, by decide +kernel⟩
def F_X7_metreOf (s_o : S7) (x1 : Int32) : Option (Int32) := (F_X6_at 8 (s7_metres s_o) x1).bind fun q_1 => some (q_1)
def w_X7_metreOf (o o_words o_forms o_paper o_stock : Nat → Nat) (cB cI cJ cZ : ClassId) (s_o : S7) : va_W := List.flatten [(gX7 o cB cI cJ cZ (o_words 0) (o_forms 0) (o_paper 0) (o_stock 0) s_o)]
abbrev rm_X7_metreOf : Room := { frames := 1, cells := 0, slots := 0, locals := 21 }
set_option maxHeartbeats 4000000 in
set_option maxRecDepth 100000 in
theorem c_X7_metreOf (l : Launch) (D : gG) (cB cI cJ cZ : ClassId) (o o_words o_forms o_paper o_stock : Nat → Nat) (s_o : S7) (x1 : Int32) (r : Int32) (hf : F_X7_metreOf s_o x1 = some r) : gM l D (tyL cB cI cJ cZ) yX7_metreOf cX7_metreOf 2 (some .int) rm_X7_metreOf [.ref (o 0), .int x1] (w_X7_metreOf o o_words o_forms o_paper o_stock cB cI cJ cZ s_o) (some (.int r)) (w_X7_metreOf o o_words o_forms o_paper o_stock cB cI cJ cZ s_o) := by
  refine met_of (by decide) (Nat.le_of_ble_eq_true rfl) ?_
  intro p e s m args below meth c A cx hr hA
  show gW p l e rm_X7_metreOf s m args below meth c D A 2 _ 0 0 _ [(0, .ref (o 0)), (1, .int x1)] 0 []
  rw [F_X7_metreOf] at hf
  refine g_aln cx 0 dX7_metreOf_0 rfl ?_
  refine fg_RX7_37 cx 0 rfl rfl dX7_metreOf_1 ?_
  refine g_iln cx 1 dX7_metreOf_4 rfl ?_
  refine ob hf (fun q_1 hq_1 hf => ?_)
  refine g_callSiR cx lk_RX7_52 (c_X6_at l D cB cI cJ cZ (o 1) 8 (s7_metres s_o) x1 q_1 hq_1) rfl [1] rfl rfl rfl (Nat.le_of_ble_eq_true rfl) ⟨rfl, rfl, Nat.le_of_ble_eq_true rfl, Nat.le_of_ble_eq_true rfl⟩ dX7_metreOf_5 ?_
  exact g_iret (ovf := fun (r : Int32) => (some (.int r))) (wf := fun (r : Int32) => (w_X7_metreOf o o_words o_forms o_paper o_stock cB cI cJ cZ s_o)) cx hA hr hf rfl rfl dX7_metreOf_8
theorem dX7_setMetre_0 : decode cX7_setMetre 0 = .ok (.aload_n 0, 1) := by decide +kernel
theorem dX7_setMetre_1 : decode cX7_setMetre 1 = .ok (.getfield 37, 3) := by decide +kernel
theorem dX7_setMetre_4 : decode cX7_setMetre 4 = .ok (.iload_n 1, 1) := by decide +kernel
theorem dX7_setMetre_5 : decode cX7_setMetre 5 = .ok (.iload_n 2, 1) := by decide +kernel
theorem dX7_setMetre_6 : decode cX7_setMetre 6 = .ok (.invokestatic 58, 3) := by decide +kernel
theorem dX7_setMetre_9 : decode cX7_setMetre 9 = .ok (.return_, 1) := by decide +kernel
theorem q2_217 : Cond.methodLink RX7 58 yX6_set ∈ TT := tq2 217 rfl rfl
theorem lk_RX7_58 : slk RX7 58 yX6_set cX6_set 3 none 3 := ⟨List.forall_mem_cons.mpr ⟨q2_217, List.forall_mem_cons.mpr ⟨q2_178, List.forall_mem_cons.mpr ⟨q1_19, fun _ h => absurd h List.not_mem_nil⟩⟩⟩, q2_179, by decide, by decide, by decide +kernel⟩
def F_X7_setMetre (s_o : S7) (x1 : Int32) (x2 : Int32) : Option (S7) := (F_X6_set 8 (s7_metres s_o) x1 x2).bind fun q_1 => some ((u7_metres s_o q_1))
def w_X7_setMetre (o o_words o_forms o_paper o_stock : Nat → Nat) (cB cI cJ cZ : ClassId) (s_o : S7) : va_W := List.flatten [(gX7 o cB cI cJ cZ (o_words 0) (o_forms 0) (o_paper 0) (o_stock 0) s_o)]
abbrev rm_X7_setMetre : Room := { frames := 1, cells := 0, slots := 0, locals := 22 }
set_option maxHeartbeats 4000000 in
set_option maxRecDepth 100000 in
theorem c_X7_setMetre (l : Launch) (D : gG) (cB cI cJ cZ : ClassId) (o o_words o_forms o_paper o_stock : Nat → Nat) (s_o : S7) (x1 : Int32) (x2 : Int32) (r : S7) (hf : F_X7_setMetre s_o x1 x2 = some r) : gM l D (tyL cB cI cJ cZ) yX7_setMetre cX7_setMetre 3 none rm_X7_setMetre [.ref (o 0), .int x1, .int x2] (w_X7_setMetre o o_words o_forms o_paper o_stock cB cI cJ cZ s_o) none (w_X7_setMetre o o_words o_forms o_paper o_stock cB cI cJ cZ r) := by
  refine met_of (by decide) (Nat.le_of_ble_eq_true rfl) ?_
  intro p e s m args below meth c A cx hr hA
  show gW p l e rm_X7_setMetre s m args below meth c D A 3 _ 0 0 _ [(0, .ref (o 0)), (1, .int x1), (2, .int x2)] 0 []
  rw [F_X7_setMetre] at hf
  refine g_aln cx 0 dX7_setMetre_0 rfl ?_
  refine fg_RX7_37 cx 0 rfl rfl dX7_setMetre_1 ?_
  refine g_iln cx 1 dX7_setMetre_4 rfl ?_
  refine g_iln cx 2 dX7_setMetre_5 rfl ?_
  refine ob hf (fun q_1 hq_1 hf => ?_)
  refine g_callSv cx lk_RX7_58 (c_X6_set l D cB cI cJ cZ (o 1) 8 (s7_metres s_o) x1 x2 q_1 hq_1) rfl [1] rfl rfl (ws' := (w_X7_setMetre o o_words o_forms o_paper o_stock cB cI cJ cZ (u7_metres s_o q_1))) rfl rfl rfl (Nat.le_of_ble_eq_true rfl) ⟨rfl, rfl, Nat.le_of_ble_eq_true rfl, Nat.le_of_ble_eq_true rfl⟩ dX7_setMetre_6 ?_
  exact g_vret (ovf := fun (r : S7) => none) (wf := fun (r : S7) => (w_X7_setMetre o o_words o_forms o_paper o_stock cB cI cJ cZ r)) cx hA hr hf rfl rfl dX7_setMetre_9
theorem dX7_fits_0 : decode cX7_fits 0 = .ok (.aload_n 0, 1) := by decide +kernel
theorem dX7_fits_1 : decode cX7_fits 1 = .ok (.iload_n 1, 1) := by decide +kernel
theorem dX7_fits_2 : decode cX7_fits 2 = .ok (.invokevirtual 62, 3) := by decide +kernel
theorem dX7_fits_5 : decode cX7_fits 5 = .ok (.istore 4, 2) := by decide +kernel
theorem dX7_fits_7 : decode cX7_fits 7 = .ok (.iload 4, 2) := by decide +kernel
theorem dX7_fits_9 : decode cX7_fits 9 = .ok (.ifCond .eq 18, 3) := by decide +kernel
theorem dX7_fits_12 : decode cX7_fits 12 = .ok (.iload 4, 2) := by decide +kernel
theorem dX7_fits_14 : decode cX7_fits 14 = .ok (.iload_n 3, 1) := by decide +kernel
theorem dX7_fits_15 : decode cX7_fits 15 = .ok (.aload_n 0, 1) := by decide +kernel
theorem dX7_fits_16 : decode cX7_fits 16 = .ok (.getfield 12, 3) := by decide +kernel
theorem dX7_fits_19 : decode cX7_fits 19 = .ok (.iload_n 2, 1) := by decide +kernel
theorem dX7_fits_20 : decode cX7_fits 20 = .ok (.invokevirtual 66, 3) := by decide +kernel
theorem dX7_fits_23 : decode cX7_fits 23 = .ok (.iadd, 1) := by decide +kernel
theorem dX7_fits_24 : decode cX7_fits 24 = .ok (.if_icmp .ne 7, 3) := by decide +kernel
theorem dX7_fits_27 : decode cX7_fits 27 = .ok (.iconst 1, 1) := by decide +kernel
theorem dX7_fits_28 : decode cX7_fits 28 = .ok (.goto 4, 3) := by decide +kernel
theorem dX7_fits_31 : decode cX7_fits 31 = .ok (.iconst 0, 1) := by decide +kernel
theorem dX7_fits_32 : decode cX7_fits 32 = .ok (.ireturn, 1) := by decide +kernel
theorem q1_9 : Cond.initialized RX7 ∈ TT := tq1 9 rfl rfl
theorem q3_41 : Cond.instanceMethod yX10_syllables ∈ TT := tq3 41 rfl rfl
theorem q3_42 : Cond.selects RX10 yX10_syllables yX10_syllables ∈ TT := tq3 42 rfl rfl
theorem q3_43 : Cond.code yX10_syllables cX10_syllables 2 (some .int) ∈ TT := tq3 43 rfl rfl
theorem q3_61 : Cond.instanceMethod yX7_metreOf ∈ TT := tq3 61 rfl rfl
theorem q3_62 : Cond.selects RX7 yX7_metreOf yX7_metreOf ∈ TT := tq3 62 rfl rfl
theorem q3_63 : Cond.code yX7_metreOf cX7_metreOf 2 (some .int) ∈ TT := tq3 63 rfl rfl
theorem q3_133 : Cond.methodLink RX7 62 yX7_metreOf ∈ TT := tq3 133 rfl rfl
theorem q3_134 : Cond.methodLink RX7 66 yX10_syllables ∈ TT := tq3 134 rfl rfl
theorem lk_RX7_62 : vlk RX7 62 yX7_metreOf cX7_metreOf 2 (some .int) 1 := ⟨List.forall_mem_cons.mpr ⟨q3_133, List.forall_mem_cons.mpr ⟨q3_61, List.forall_mem_cons.mpr ⟨q3_62, List.forall_mem_cons.mpr ⟨q1_9, fun _ h => absurd h List.not_mem_nil⟩⟩⟩⟩, q3_63, by decide, by decide, by decide +kernel⟩
theorem lk_RX7_66 : vlk RX7 66 yX10_syllables cX10_syllables 2 (some .int) 1 := ⟨List.forall_mem_cons.mpr ⟨q3_134, List.forall_mem_cons.mpr ⟨q3_41, List.forall_mem_cons.mpr ⟨q3_42, List.forall_mem_cons.mpr ⟨q1_10, fun _ h => absurd h List.not_mem_nil⟩⟩⟩⟩, q3_43, by decide, by decide, by decide +kernel⟩
def F_X7_fits (s_o : S7) (s_o_words : S10) (x1 : Int32) (x2 : Int32) (x3 : Int32) : Option (Int32) := (F_X7_metreOf s_o x1).bind fun q_1 => nm q_1 fun v4_2 => (if v4_2 = 0 then some (1) else (F_X10_syllables s_o_words x2).bind fun q_3 => (if v4_2 = (x3 + q_3) then some (1) else some (0)))
def w_X7_fits (o o_words o_forms o_paper o_stock : Nat → Nat) (cB cI cJ cZ : ClassId) (s_o : S7) (s_o_words : S10) : va_W := List.flatten [(gX7 o cB cI cJ cZ (o_words 0) (o_forms 0) (o_paper 0) (o_stock 0) s_o), (gX10 o_words cB cI cJ cZ s_o_words)]
abbrev rm_X7_fits : Room := { frames := 2, cells := 0, slots := 0, locals := 42 }
set_option maxHeartbeats 4000000 in
set_option maxRecDepth 100000 in
theorem c_X7_fits (l : Launch) (D : gG) (cB cI cJ cZ : ClassId) (o o_words o_forms o_paper o_stock : Nat → Nat) (s_o : S7) (s_o_words : S10) (x1 : Int32) (x2 : Int32) (x3 : Int32) (r : Int32) (hf : F_X7_fits s_o s_o_words x1 x2 x3 = some r) : gM l D (tyL cB cI cJ cZ) yX7_fits cX7_fits 5 (some .boolean) rm_X7_fits [.ref (o 0), .int x1, .int x2, .int x3] (w_X7_fits o o_words o_forms o_paper o_stock cB cI cJ cZ s_o s_o_words) (some (.int r)) (w_X7_fits o o_words o_forms o_paper o_stock cB cI cJ cZ s_o s_o_words) := by
  refine met_of (by decide) (Nat.le_of_ble_eq_true rfl) ?_
  intro p e s m args below meth c A cx hr hA
  show gW p l e rm_X7_fits s m args below meth c D A 5 _ 0 0 _ [(0, .ref (o 0)), (1, .int x1), (2, .int x2), (3, .int x3)] 0 []
  rw [F_X7_fits] at hf
  refine g_aln cx 0 dX7_fits_0 rfl ?_
  refine g_iln cx 1 dX7_fits_1 rfl ?_
  refine ob hf (fun q_1 hq_1 hf => ?_)
  refine g_callVGiR cx lk_RX7_62 (c_X7_metreOf l D cB cI cJ cZ o o_words o_forms o_paper o_stock s_o x1 q_1 hq_1) rfl [0] rfl rfl (ci := 5) (q1 := 0) rfl rfl rfl (Nat.le_of_ble_eq_true rfl) ⟨rfl, rfl, Nat.le_of_ble_eq_true rfl, Nat.le_of_ble_eq_true rfl⟩ dX7_fits_2 ?_
  refine g_is cx (L2 := fun v4_2 => [(4, .int v4_2), (0, .ref (o 0)), (1, .int x1), (2, .int x2), (3, .int x3)]) hf dX7_fits_5 (Nat.le_of_ble_eq_true rfl) (fun _ => rfl) (fun v4_2 hf => ?_)
  refine g_il cx 0 dX7_fits_7 rfl ?_
  refine g_if_eq (tgt := 27) cx hf dX7_fits_9 rfl (fun hf => ?_) (fun hf => ?_)
  · refine g_ic cx dX7_fits_27 k_ic1 ?_
    refine g_goto (tgt := 32) cx dX7_fits_28 rfl ?_
    exact g_zret (ovf := fun (r : Int32) => (some (.int r))) (wf := fun (r : Int32) => (w_X7_fits o o_words o_forms o_paper o_stock cB cI cJ cZ s_o s_o_words)) cx hA hr rfl hf rfl rfl dX7_fits_32
  · refine g_il cx 0 dX7_fits_12 rfl ?_
    refine g_iln cx 4 dX7_fits_14 rfl ?_
    refine g_aln cx 1 dX7_fits_15 rfl ?_
    refine fg_RX7_12 cx 0 rfl rfl dX7_fits_16 ?_
    refine g_iln cx 3 dX7_fits_19 rfl ?_
    refine ob hf (fun q_3 hq_3 hf => ?_)
    refine g_callVGiR cx lk_RX7_66 (c_X10_syllables l D cB cI cJ cZ o_words s_o_words x2 q_3 hq_3) rfl [1] rfl rfl (ci := 8) (q1 := 0) rfl rfl rfl (Nat.le_of_ble_eq_true rfl) ⟨rfl, rfl, Nat.le_of_ble_eq_true rfl, Nat.le_of_ble_eq_true rfl⟩ dX7_fits_20 ?_
    refine g_iadd cx dX7_fits_23 ?_
    refine g_ic_ne (tgt := 31) cx hf dX7_fits_24 rfl (fun hf => ?_) (fun hf => ?_)
    · refine g_ic cx dX7_fits_31 k_ic0 ?_
      exact g_zret (ovf := fun (r : Int32) => (some (.int r))) (wf := fun (r : Int32) => (w_X7_fits o o_words o_forms o_paper o_stock cB cI cJ cZ s_o s_o_words)) cx hA hr rfl hf rfl rfl dX7_fits_32
    · refine g_ic cx dX7_fits_27 k_ic1 ?_
      refine g_goto (tgt := 32) cx dX7_fits_28 rfl ?_
      exact g_zret (ovf := fun (r : Int32) => (some (.int r))) (wf := fun (r : Int32) => (w_X7_fits o o_words o_forms o_paper o_stock cB cI cJ cZ s_o s_o_words)) cx hA hr rfl hf rfl rfl dX7_fits_32
