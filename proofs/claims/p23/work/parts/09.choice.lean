theorem dX0_pickAt_0 : decode cX0_pickAt 0 = .ok (.aload_n 0, 1) := by decide +kernel
theorem dX0_pickAt_1 : decode cX0_pickAt 1 = .ok (.getfield 20, 3) := by decide +kernel
theorem dX0_pickAt_4 : decode cX0_pickAt 4 = .ok (.iload_n 1, 1) := by decide +kernel
theorem dX0_pickAt_5 : decode cX0_pickAt 5 = .ok (.invokestatic 64, 3) := by decide +kernel
theorem dX0_pickAt_8 : decode cX0_pickAt 8 = .ok (.ireturn, 1) := by decide +kernel
theorem q1_136 : Cond.fieldLink RX0 20 "RhymeLaw$Choice" "picks" "[I" ∈ TT := tq1 136 rfl rfl
theorem q4_80 : Cond.methodLink RX0 64 yX6_at ∈ TT := tq4 80 rfl rfl
theorem fg_RX0_20 {p : Program} {l : Launch} {e : Env} {R : Room} {s : State} {m : MethodId} {args : Array Value} {below : List Frame} {meth : Method} {c : Code} {D : gG} {tys : List (ClassId × FieldType)} {A : Nat → Prop} {nL : Nat} {Q : State → Prop} {cells slots : Nat} {cc : ByteArray} {ws : va_W} {L : List (Nat × Value)} {pc : Nat} {stk : List Value} (cx : gX p s m args meth c cc nL RX0 D tys A) {a : Nat} {fs : List Value} {v : Value} (q0 : Nat) (he : ws[q0]? = some (a, .inr (0, fs))) (hv : fs[1]? = some v) (hd : decode cc pc = .ok (.getfield 20, 3)) (kk : gW p l e R s m args below meth c D A nL Q cells slots ws L (pc + 3) (v :: stk)) : gW p l e R s m args below meth c D A nL Q cells slots ws L pc (.ref a :: stk) :=
  g_get cx (C := RX0) (T := TX0) (N := 6) inT0 rfl 1 (Nat.le_of_ble_eq_true rfl) q1_136 rfl q0 he hv hd kk
theorem lk_RX0_64 : slk RX0 64 yX6_at cX6_at 2 (some .int) 2 := ⟨List.forall_mem_cons.mpr ⟨q4_80, List.forall_mem_cons.mpr ⟨q2_207, List.forall_mem_cons.mpr ⟨q1_19, fun _ h => absurd h List.not_mem_nil⟩⟩⟩, q2_208, by decide, by decide, by decide +kernel⟩
def F_X0_pickAt (s_o : S0) (x1 : Int32) : Option (Int32) := (F_X6_at 6 (s0_picks s_o) x1).bind fun q_1 => some (q_1)
def w_X0_pickAt (o o_row o_tale : Nat → Nat) (cB cI cJ cZ : ClassId) (s_o : S0) (rf_o_tale : Value) : va_W := List.flatten [(gX0 o cB cI cJ cZ (o_row 0) rf_o_tale s_o)]
abbrev rm_X0_pickAt : Room := { frames := 1, cells := 0, slots := 0, locals := 21 }
set_option maxHeartbeats 4000000 in
set_option maxRecDepth 100000 in
theorem c_X0_pickAt (l : Launch) (D : gG) (cB cI cJ cZ : ClassId) (o o_row o_tale : Nat → Nat) (s_o : S0) (x1 : Int32) (r : Int32) (hf : F_X0_pickAt s_o x1 = some r) : gM l D (tyL cB cI cJ cZ) yX0_pickAt cX0_pickAt 2 (some .int) rm_X0_pickAt [.ref (o 0), .int x1] (w_X0_pickAt o o_row o_tale cB cI cJ cZ s_o (.ref (o_tale 0))) (some (.int r)) (w_X0_pickAt o o_row o_tale cB cI cJ cZ s_o (.ref (o_tale 0))) := by
  refine met_of (by decide) (Nat.le_of_ble_eq_true rfl) ?_
  intro p e s m args below meth c A cx hr hA
  show gW p l e rm_X0_pickAt s m args below meth c D A 2 _ 0 0 _ [(0, .ref (o 0)), (1, .int x1)] 0 []
  rw [F_X0_pickAt] at hf
  refine g_aln cx 0 dX0_pickAt_0 rfl ?_
  refine fg_RX0_20 cx 0 rfl rfl dX0_pickAt_1 ?_
  refine g_iln cx 1 dX0_pickAt_4 rfl ?_
  refine ob hf (fun q_1 hq_1 hf => ?_)
  refine g_callSiR cx lk_RX0_64 (c_X6_at l D cB cI cJ cZ (o 1) 6 (s0_picks s_o) x1 q_1 hq_1) rfl [1] rfl rfl rfl (Nat.le_of_ble_eq_true rfl) ⟨rfl, rfl, Nat.le_of_ble_eq_true rfl, Nat.le_of_ble_eq_true rfl⟩ dX0_pickAt_5 ?_
  exact g_iret (ovf := fun (r : Int32) => (some (.int r))) (wf := fun (r : Int32) => (w_X0_pickAt o o_row o_tale cB cI cJ cZ s_o (.ref (o_tale 0)))) cx hA hr hf rfl rfl dX0_pickAt_8
theorem dX0_stockSize_0 : decode cX0_stockSize 0 = .ok (.aload_n 0, 1) := by decide +kernel
theorem dX0_stockSize_1 : decode cX0_stockSize 1 = .ok (.getfield 24, 3) := by decide +kernel
theorem dX0_stockSize_4 : decode cX0_stockSize 4 = .ok (.ifnonnull 7, 3) := by decide +kernel
theorem dX0_stockSize_11 : decode cX0_stockSize 11 = .ok (.aload_n 0, 1) := by decide +kernel
theorem dX0_stockSize_12 : decode cX0_stockSize 12 = .ok (.getfield 24, 3) := by decide +kernel
theorem dX0_stockSize_15 : decode cX0_stockSize 15 = .ok (.getfield 38, 3) := by decide +kernel
theorem dX0_stockSize_18 : decode cX0_stockSize 18 = .ok (.invokevirtual 43, 3) := by decide +kernel
theorem dX0_stockSize_21 : decode cX0_stockSize 21 = .ok (.ireturn, 1) := by decide +kernel
theorem q1_137 : Cond.fieldLink RX0 24 "RhymeLaw$Choice" "tale" "LRhymeLaw$Tale;" ∈ TT := tq1 137 rfl rfl
theorem q1_217 : Cond.fieldLink RX0 38 "RhymeLaw$Tale" "stock" "LRhymeLaw$Paper;" ∈ TT := tq1 217 rfl rfl
theorem q4_42 : Cond.methodLink RX0 43 yX4_size ∈ TT := tq4 42 rfl rfl
theorem fg_RX0_24 {p : Program} {l : Launch} {e : Env} {R : Room} {s : State} {m : MethodId} {args : Array Value} {below : List Frame} {meth : Method} {c : Code} {D : gG} {tys : List (ClassId × FieldType)} {A : Nat → Prop} {nL : Nat} {Q : State → Prop} {cells slots : Nat} {cc : ByteArray} {ws : va_W} {L : List (Nat × Value)} {pc : Nat} {stk : List Value} (cx : gX p s m args meth c cc nL RX0 D tys A) {a : Nat} {fs : List Value} {v : Value} (q0 : Nat) (he : ws[q0]? = some (a, .inr (0, fs))) (hv : fs[2]? = some v) (hd : decode cc pc = .ok (.getfield 24, 3)) (kk : gW p l e R s m args below meth c D A nL Q cells slots ws L (pc + 3) (v :: stk)) : gW p l e R s m args below meth c D A nL Q cells slots ws L pc (.ref a :: stk) :=
  g_get cx (C := RX0) (T := TX0) (N := 6) inT0 rfl 2 (Nat.le_of_ble_eq_true rfl) q1_137 rfl q0 he hv hd kk
theorem fg_RX0_38 {p : Program} {l : Launch} {e : Env} {R : Room} {s : State} {m : MethodId} {args : Array Value} {below : List Frame} {meth : Method} {c : Code} {D : gG} {tys : List (ClassId × FieldType)} {A : Nat → Prop} {nL : Nat} {Q : State → Prop} {cells slots : Nat} {cc : ByteArray} {ws : va_W} {L : List (Nat × Value)} {pc : Nat} {stk : List Value} (cx : gX p s m args meth c cc nL RX0 D tys A) {a : Nat} {fs : List Value} {v : Value} (q0 : Nat) (he : ws[q0]? = some (a, .inr (5, fs))) (hv : fs[3]? = some v) (hd : decode cc pc = .ok (.getfield 38, 3)) (kk : gW p l e R s m args below meth c D A nL Q cells slots ws L (pc + 3) (v :: stk)) : gW p l e R s m args below meth c D A nL Q cells slots ws L pc (.ref a :: stk) :=
  g_get cx (C := RX7) (T := TX7) (N := 5) inT7 rfl 3 (Nat.le_of_ble_eq_true rfl) q1_217 rfl q0 he hv hd kk
theorem lk_RX0_43 : vlk RX0 43 yX4_size cX4_size 1 (some .int) 0 := ⟨List.forall_mem_cons.mpr ⟨q4_42, List.forall_mem_cons.mpr ⟨q2_231, List.forall_mem_cons.mpr ⟨q2_232, List.forall_mem_cons.mpr ⟨q1_4, fun _ h => absurd h List.not_mem_nil⟩⟩⟩⟩, q2_233, by decide, by decide, by decide +kernel⟩
def F_X0_stockSize (s_o : S0) (s_o_tale : S7) (s_o_tale_stock : S4) : Option (Int32) := (F_X4_size s_o_tale_stock).bind fun q_1 => some (q_1)
def w_X0_stockSize (o o_tale o_tale_stock o_row o_tale_words o_tale_forms o_tale_paper : Nat → Nat) (cB cI cJ cZ : ClassId) (s_o : S0) (s_o_tale : S7) (s_o_tale_stock : S4) (rf_o_tale : Value) : va_W := List.flatten [(gX0 o cB cI cJ cZ (o_row 0) rf_o_tale s_o), (gX7 o_tale cB cI cJ cZ (o_tale_words 0) (o_tale_forms 0) (o_tale_paper 0) (o_tale_stock 0) s_o_tale), (gX4 o_tale_stock cB cI cJ cZ s_o_tale_stock)]
abbrev rm_X0_stockSize : Room := { frames := 1, cells := 0, slots := 0, locals := 20 }
set_option maxHeartbeats 4000000 in
set_option maxRecDepth 100000 in
theorem c_X0_stockSize (l : Launch) (D : gG) (cB cI cJ cZ : ClassId) (o o_tale o_tale_stock o_row o_tale_words o_tale_forms o_tale_paper : Nat → Nat) (s_o : S0) (s_o_tale : S7) (s_o_tale_stock : S4) (r : Int32) (hf : F_X0_stockSize s_o s_o_tale s_o_tale_stock = some r) : gM l D (tyL cB cI cJ cZ) yX0_stockSize cX0_stockSize 1 (some .int) rm_X0_stockSize [.ref (o 0)] (w_X0_stockSize o o_tale o_tale_stock o_row o_tale_words o_tale_forms o_tale_paper cB cI cJ cZ s_o s_o_tale s_o_tale_stock (.ref (o_tale 0))) (some (.int r)) (w_X0_stockSize o o_tale o_tale_stock o_row o_tale_words o_tale_forms o_tale_paper cB cI cJ cZ s_o s_o_tale s_o_tale_stock (.ref (o_tale 0))) := by
  refine met_of (by decide) (Nat.le_of_ble_eq_true rfl) ?_
  intro p e s m args below meth c A cx hr hA
  show gW p l e rm_X0_stockSize s m args below meth c D A 1 _ 0 0 _ [(0, .ref (o 0))] 0 []
  rw [F_X0_stockSize] at hf
  refine g_aln cx 0 dX0_stockSize_0 rfl ?_
  refine fg_RX0_24 cx 0 rfl rfl dX0_stockSize_1 ?_
  refine g_nn (tgt := 11) cx dX0_stockSize_4 rfl ?_
  refine g_aln cx 0 dX0_stockSize_11 rfl ?_
  refine fg_RX0_24 cx 0 rfl rfl dX0_stockSize_12 ?_
  refine fg_RX0_38 cx 2 rfl rfl dX0_stockSize_15 ?_
  refine ob hf (fun q_1 hq_1 hf => ?_)
  refine g_callVGiR cx lk_RX0_43 (c_X4_size l D cB cI cJ cZ o_tale_stock s_o_tale_stock q_1 hq_1) rfl [2] rfl rfl (ci := 4) (q1 := 0) rfl rfl rfl (Nat.le_of_ble_eq_true rfl) ⟨rfl, rfl, Nat.le_of_ble_eq_true rfl, Nat.le_of_ble_eq_true rfl⟩ dX0_stockSize_18 ?_
  exact g_iret (ovf := fun (r : Int32) => (some (.int r))) (wf := fun (r : Int32) => (w_X0_stockSize o o_tale o_tale_stock o_row o_tale_words o_tale_forms o_tale_paper cB cI cJ cZ s_o s_o_tale s_o_tale_stock (.ref (o_tale 0)))) cx hA hr hf rfl rfl dX0_stockSize_21
def tX0_lay_10 : List Nat := 153 :: 0 :: 7 :: 4 :: 167 :: 0 :: 4 :: 3 :: 172 :: []
def tX0_lay_9 : List Nat := 14 :: 29 :: 182 :: 0 :: 83 :: 42 :: 180 :: 0 :: 14 :: 27 :: 182 :: 0 :: 83 :: 182 :: 0 :: 116 :: tX0_lay_10
def tX0_lay_8 : List Nat := 0 :: 36 :: 42 :: 180 :: 0 :: 24 :: 180 :: 0 :: 112 :: 42 :: 180 :: 0 :: 32 :: 42 :: 180 :: 0 :: tX0_lay_9
def tX0_lay_7 : List Nat := 0 :: 24 :: 180 :: 0 :: 50 :: 42 :: 180 :: 0 :: 28 :: 27 :: 182 :: 0 :: 109 :: 62 :: 29 :: 155 :: tX0_lay_8
def tX0_lay_6 : List Nat := 0 :: 14 :: 27 :: 182 :: 0 :: 90 :: 182 :: 0 :: 105 :: 154 :: 0 :: 5 :: 3 :: 172 :: 42 :: 180 :: tX0_lay_7
def tX0_lay_5 : List Nat := 0 :: 28 :: 27 :: 182 :: 0 :: 101 :: 42 :: 180 :: 0 :: 14 :: 27 :: 182 :: 0 :: 83 :: 42 :: 180 :: tX0_lay_6
def tX0_lay_4 : List Nat := 184 :: 0 :: 97 :: 42 :: 180 :: 0 :: 24 :: 42 :: 180 :: 0 :: 24 :: 180 :: 0 :: 50 :: 42 :: 180 :: tX0_lay_5
def tX0_lay_3 : List Nat := 180 :: 0 :: 38 :: 28 :: 182 :: 0 :: 90 :: 182 :: 0 :: 93 :: 42 :: 180 :: 0 :: 20 :: 27 :: 28 :: tX0_lay_4
def tX0_lay_2 : List Nat := 83 :: 42 :: 180 :: 0 :: 24 :: 180 :: 0 :: 38 :: 28 :: 182 :: 0 :: 87 :: 42 :: 180 :: 0 :: 24 :: tX0_lay_3
def tX0_lay_1 : List Nat := 80 :: 42 :: 180 :: 0 :: 14 :: 27 :: 42 :: 180 :: 0 :: 24 :: 180 :: 0 :: 38 :: 28 :: 182 :: 0 :: tX0_lay_2
def tX0_lay_0 : List Nat := 42 :: 180 :: 0 :: 24 :: 199 :: 0 :: 5 :: 3 :: 172 :: 42 :: 180 :: 0 :: 14 :: 27 :: 182 :: 0 :: tX0_lay_1
theorem tX0_layf_0 : (cX0_lay.data.toList.map UInt8.toNat).drop 0 = tX0_lay_0 := by decide +kernel
theorem tX0_layf_1 : (cX0_lay.data.toList.map UInt8.toNat).drop 16 = tX0_lay_1 := fd_next (k := 0) tX0_layf_0 rfl
theorem tX0_layf_2 : (cX0_lay.data.toList.map UInt8.toNat).drop 32 = tX0_lay_2 := fd_next (k := 16) tX0_layf_1 rfl
theorem tX0_layf_3 : (cX0_lay.data.toList.map UInt8.toNat).drop 48 = tX0_lay_3 := fd_next (k := 32) tX0_layf_2 rfl
theorem tX0_layf_4 : (cX0_lay.data.toList.map UInt8.toNat).drop 64 = tX0_lay_4 := fd_next (k := 48) tX0_layf_3 rfl
theorem tX0_layf_5 : (cX0_lay.data.toList.map UInt8.toNat).drop 80 = tX0_lay_5 := fd_next (k := 64) tX0_layf_4 rfl
theorem tX0_layf_6 : (cX0_lay.data.toList.map UInt8.toNat).drop 96 = tX0_lay_6 := fd_next (k := 80) tX0_layf_5 rfl
theorem tX0_layf_7 : (cX0_lay.data.toList.map UInt8.toNat).drop 112 = tX0_lay_7 := fd_next (k := 96) tX0_layf_6 rfl
theorem tX0_layf_8 : (cX0_lay.data.toList.map UInt8.toNat).drop 128 = tX0_lay_8 := fd_next (k := 112) tX0_layf_7 rfl
theorem tX0_layf_9 : (cX0_lay.data.toList.map UInt8.toNat).drop 144 = tX0_lay_9 := fd_next (k := 128) tX0_layf_8 rfl
theorem tX0_layf_10 : (cX0_lay.data.toList.map UInt8.toNat).drop 160 = tX0_lay_10 := fd_next (k := 144) tX0_layf_9 rfl
theorem dX0_lay_0 : decode cX0_lay 0 = .ok (.aload_n 0, 1) := dk_42 (fdB_of (k := 0) tX0_layf_0 0 42 rfl)
theorem dX0_lay_1 : decode cX0_lay 1 = .ok (.getfield 24, 3) := dk_180 (fdB_of (k := 0) tX0_layf_0 1 180 rfl) (fdB_of (k := 0) tX0_layf_0 2 0 rfl) (fdB_of (k := 0) tX0_layf_0 3 24 rfl)
theorem dX0_lay_4 : decode cX0_lay 4 = .ok (.ifnonnull 5, 3) := dk_199 (fdB_of (k := 0) tX0_layf_0 4 199 rfl) (fdB_of (k := 0) tX0_layf_0 5 0 rfl) (fdB_of (k := 0) tX0_layf_0 6 5 rfl) (by decide +kernel)
theorem dX0_lay_9 : decode cX0_lay 9 = .ok (.aload_n 0, 1) := dk_42 (fdB_of (k := 0) tX0_layf_0 9 42 rfl)
theorem dX0_lay_10 : decode cX0_lay 10 = .ok (.getfield 14, 3) := dk_180 (fdB_of (k := 0) tX0_layf_0 10 180 rfl) (fdB_of (k := 0) tX0_layf_0 11 0 rfl) (fdB_of (k := 0) tX0_layf_0 12 14 rfl)
theorem dX0_lay_13 : decode cX0_lay 13 = .ok (.iload_n 1, 1) := dk_27 (fdB_of (k := 0) tX0_layf_0 13 27 rfl)
theorem dX0_lay_14 : decode cX0_lay 14 = .ok (.invokevirtual 80, 3) := dk_182 (fdB_of (k := 0) tX0_layf_0 14 182 rfl) (fdB_of (k := 0) tX0_layf_0 15 0 rfl) (fdB_of (k := 16) tX0_layf_1 0 80 rfl)
theorem dX0_lay_17 : decode cX0_lay 17 = .ok (.aload_n 0, 1) := dk_42 (fdB_of (k := 16) tX0_layf_1 1 42 rfl)
theorem dX0_lay_18 : decode cX0_lay 18 = .ok (.getfield 14, 3) := dk_180 (fdB_of (k := 16) tX0_layf_1 2 180 rfl) (fdB_of (k := 16) tX0_layf_1 3 0 rfl) (fdB_of (k := 16) tX0_layf_1 4 14 rfl)
theorem dX0_lay_21 : decode cX0_lay 21 = .ok (.iload_n 1, 1) := dk_27 (fdB_of (k := 16) tX0_layf_1 5 27 rfl)
theorem dX0_lay_22 : decode cX0_lay 22 = .ok (.aload_n 0, 1) := dk_42 (fdB_of (k := 16) tX0_layf_1 6 42 rfl)
theorem dX0_lay_23 : decode cX0_lay 23 = .ok (.getfield 24, 3) := dk_180 (fdB_of (k := 16) tX0_layf_1 7 180 rfl) (fdB_of (k := 16) tX0_layf_1 8 0 rfl) (fdB_of (k := 16) tX0_layf_1 9 24 rfl)
theorem dX0_lay_26 : decode cX0_lay 26 = .ok (.getfield 38, 3) := dk_180 (fdB_of (k := 16) tX0_layf_1 10 180 rfl) (fdB_of (k := 16) tX0_layf_1 11 0 rfl) (fdB_of (k := 16) tX0_layf_1 12 38 rfl)
theorem dX0_lay_29 : decode cX0_lay 29 = .ok (.iload_n 2, 1) := dk_28 (fdB_of (k := 16) tX0_layf_1 13 28 rfl)
theorem dX0_lay_30 : decode cX0_lay 30 = .ok (.invokevirtual 83, 3) := dk_182 (fdB_of (k := 16) tX0_layf_1 14 182 rfl) (fdB_of (k := 16) tX0_layf_1 15 0 rfl) (fdB_of (k := 32) tX0_layf_2 0 83 rfl)
theorem dX0_lay_33 : decode cX0_lay 33 = .ok (.aload_n 0, 1) := dk_42 (fdB_of (k := 32) tX0_layf_2 1 42 rfl)
theorem dX0_lay_34 : decode cX0_lay 34 = .ok (.getfield 24, 3) := dk_180 (fdB_of (k := 32) tX0_layf_2 2 180 rfl) (fdB_of (k := 32) tX0_layf_2 3 0 rfl) (fdB_of (k := 32) tX0_layf_2 4 24 rfl)
theorem dX0_lay_37 : decode cX0_lay 37 = .ok (.getfield 38, 3) := dk_180 (fdB_of (k := 32) tX0_layf_2 5 180 rfl) (fdB_of (k := 32) tX0_layf_2 6 0 rfl) (fdB_of (k := 32) tX0_layf_2 7 38 rfl)
theorem dX0_lay_40 : decode cX0_lay 40 = .ok (.iload_n 2, 1) := dk_28 (fdB_of (k := 32) tX0_layf_2 8 28 rfl)
theorem dX0_lay_41 : decode cX0_lay 41 = .ok (.invokevirtual 87, 3) := dk_182 (fdB_of (k := 32) tX0_layf_2 9 182 rfl) (fdB_of (k := 32) tX0_layf_2 10 0 rfl) (fdB_of (k := 32) tX0_layf_2 11 87 rfl)
theorem dX0_lay_44 : decode cX0_lay 44 = .ok (.aload_n 0, 1) := dk_42 (fdB_of (k := 32) tX0_layf_2 12 42 rfl)
theorem dX0_lay_45 : decode cX0_lay 45 = .ok (.getfield 24, 3) := dk_180 (fdB_of (k := 32) tX0_layf_2 13 180 rfl) (fdB_of (k := 32) tX0_layf_2 14 0 rfl) (fdB_of (k := 32) tX0_layf_2 15 24 rfl)
theorem dX0_lay_48 : decode cX0_lay 48 = .ok (.getfield 38, 3) := dk_180 (fdB_of (k := 48) tX0_layf_3 0 180 rfl) (fdB_of (k := 48) tX0_layf_3 1 0 rfl) (fdB_of (k := 48) tX0_layf_3 2 38 rfl)
theorem dX0_lay_51 : decode cX0_lay 51 = .ok (.iload_n 2, 1) := dk_28 (fdB_of (k := 48) tX0_layf_3 3 28 rfl)
theorem dX0_lay_52 : decode cX0_lay 52 = .ok (.invokevirtual 90, 3) := dk_182 (fdB_of (k := 48) tX0_layf_3 4 182 rfl) (fdB_of (k := 48) tX0_layf_3 5 0 rfl) (fdB_of (k := 48) tX0_layf_3 6 90 rfl)
theorem dX0_lay_55 : decode cX0_lay 55 = .ok (.invokevirtual 93, 3) := dk_182 (fdB_of (k := 48) tX0_layf_3 7 182 rfl) (fdB_of (k := 48) tX0_layf_3 8 0 rfl) (fdB_of (k := 48) tX0_layf_3 9 93 rfl)
theorem dX0_lay_58 : decode cX0_lay 58 = .ok (.aload_n 0, 1) := dk_42 (fdB_of (k := 48) tX0_layf_3 10 42 rfl)
theorem dX0_lay_59 : decode cX0_lay 59 = .ok (.getfield 20, 3) := dk_180 (fdB_of (k := 48) tX0_layf_3 11 180 rfl) (fdB_of (k := 48) tX0_layf_3 12 0 rfl) (fdB_of (k := 48) tX0_layf_3 13 20 rfl)
theorem dX0_lay_62 : decode cX0_lay 62 = .ok (.iload_n 1, 1) := dk_27 (fdB_of (k := 48) tX0_layf_3 14 27 rfl)
theorem dX0_lay_63 : decode cX0_lay 63 = .ok (.iload_n 2, 1) := dk_28 (fdB_of (k := 48) tX0_layf_3 15 28 rfl)
theorem dX0_lay_64 : decode cX0_lay 64 = .ok (.invokestatic 97, 3) := dk_184 (fdB_of (k := 64) tX0_layf_4 0 184 rfl) (fdB_of (k := 64) tX0_layf_4 1 0 rfl) (fdB_of (k := 64) tX0_layf_4 2 97 rfl)
theorem dX0_lay_67 : decode cX0_lay 67 = .ok (.aload_n 0, 1) := dk_42 (fdB_of (k := 64) tX0_layf_4 3 42 rfl)
theorem dX0_lay_68 : decode cX0_lay 68 = .ok (.getfield 24, 3) := dk_180 (fdB_of (k := 64) tX0_layf_4 4 180 rfl) (fdB_of (k := 64) tX0_layf_4 5 0 rfl) (fdB_of (k := 64) tX0_layf_4 6 24 rfl)
theorem dX0_lay_71 : decode cX0_lay 71 = .ok (.aload_n 0, 1) := dk_42 (fdB_of (k := 64) tX0_layf_4 7 42 rfl)
theorem dX0_lay_72 : decode cX0_lay 72 = .ok (.getfield 24, 3) := dk_180 (fdB_of (k := 64) tX0_layf_4 8 180 rfl) (fdB_of (k := 64) tX0_layf_4 9 0 rfl) (fdB_of (k := 64) tX0_layf_4 10 24 rfl)
theorem dX0_lay_75 : decode cX0_lay 75 = .ok (.getfield 50, 3) := dk_180 (fdB_of (k := 64) tX0_layf_4 11 180 rfl) (fdB_of (k := 64) tX0_layf_4 12 0 rfl) (fdB_of (k := 64) tX0_layf_4 13 50 rfl)
theorem dX0_lay_78 : decode cX0_lay 78 = .ok (.aload_n 0, 1) := dk_42 (fdB_of (k := 64) tX0_layf_4 14 42 rfl)
theorem dX0_lay_79 : decode cX0_lay 79 = .ok (.getfield 28, 3) := dk_180 (fdB_of (k := 64) tX0_layf_4 15 180 rfl) (fdB_of (k := 80) tX0_layf_5 0 0 rfl) (fdB_of (k := 80) tX0_layf_5 1 28 rfl)
theorem dX0_lay_82 : decode cX0_lay 82 = .ok (.iload_n 1, 1) := dk_27 (fdB_of (k := 80) tX0_layf_5 2 27 rfl)
theorem dX0_lay_83 : decode cX0_lay 83 = .ok (.invokevirtual 101, 3) := dk_182 (fdB_of (k := 80) tX0_layf_5 3 182 rfl) (fdB_of (k := 80) tX0_layf_5 4 0 rfl) (fdB_of (k := 80) tX0_layf_5 5 101 rfl)
theorem dX0_lay_86 : decode cX0_lay 86 = .ok (.aload_n 0, 1) := dk_42 (fdB_of (k := 80) tX0_layf_5 6 42 rfl)
theorem dX0_lay_87 : decode cX0_lay 87 = .ok (.getfield 14, 3) := dk_180 (fdB_of (k := 80) tX0_layf_5 7 180 rfl) (fdB_of (k := 80) tX0_layf_5 8 0 rfl) (fdB_of (k := 80) tX0_layf_5 9 14 rfl)
theorem dX0_lay_90 : decode cX0_lay 90 = .ok (.iload_n 1, 1) := dk_27 (fdB_of (k := 80) tX0_layf_5 10 27 rfl)
theorem dX0_lay_91 : decode cX0_lay 91 = .ok (.invokevirtual 83, 3) := dk_182 (fdB_of (k := 80) tX0_layf_5 11 182 rfl) (fdB_of (k := 80) tX0_layf_5 12 0 rfl) (fdB_of (k := 80) tX0_layf_5 13 83 rfl)
theorem dX0_lay_94 : decode cX0_lay 94 = .ok (.aload_n 0, 1) := dk_42 (fdB_of (k := 80) tX0_layf_5 14 42 rfl)
theorem dX0_lay_95 : decode cX0_lay 95 = .ok (.getfield 14, 3) := dk_180 (fdB_of (k := 80) tX0_layf_5 15 180 rfl) (fdB_of (k := 96) tX0_layf_6 0 0 rfl) (fdB_of (k := 96) tX0_layf_6 1 14 rfl)
theorem dX0_lay_98 : decode cX0_lay 98 = .ok (.iload_n 1, 1) := dk_27 (fdB_of (k := 96) tX0_layf_6 2 27 rfl)
theorem dX0_lay_99 : decode cX0_lay 99 = .ok (.invokevirtual 90, 3) := dk_182 (fdB_of (k := 96) tX0_layf_6 3 182 rfl) (fdB_of (k := 96) tX0_layf_6 4 0 rfl) (fdB_of (k := 96) tX0_layf_6 5 90 rfl)
theorem dX0_lay_102 : decode cX0_lay 102 = .ok (.invokevirtual 105, 3) := dk_182 (fdB_of (k := 96) tX0_layf_6 6 182 rfl) (fdB_of (k := 96) tX0_layf_6 7 0 rfl) (fdB_of (k := 96) tX0_layf_6 8 105 rfl)
theorem dX0_lay_105 : decode cX0_lay 105 = .ok (.ifCond .ne 5, 3) := dk_154 (fdB_of (k := 96) tX0_layf_6 9 154 rfl) (fdB_of (k := 96) tX0_layf_6 10 0 rfl) (fdB_of (k := 96) tX0_layf_6 11 5 rfl) (by decide +kernel)
theorem dX0_lay_108 : decode cX0_lay 108 = .ok (.iconst 0, 1) := dk_3 (fdB_of (k := 96) tX0_layf_6 12 3 rfl)
theorem dX0_lay_109 : decode cX0_lay 109 = .ok (.ireturn, 1) := dk_172 (fdB_of (k := 96) tX0_layf_6 13 172 rfl)
theorem dX0_lay_110 : decode cX0_lay 110 = .ok (.aload_n 0, 1) := dk_42 (fdB_of (k := 96) tX0_layf_6 14 42 rfl)
theorem dX0_lay_111 : decode cX0_lay 111 = .ok (.getfield 24, 3) := dk_180 (fdB_of (k := 96) tX0_layf_6 15 180 rfl) (fdB_of (k := 112) tX0_layf_7 0 0 rfl) (fdB_of (k := 112) tX0_layf_7 1 24 rfl)
theorem dX0_lay_114 : decode cX0_lay 114 = .ok (.getfield 50, 3) := dk_180 (fdB_of (k := 112) tX0_layf_7 2 180 rfl) (fdB_of (k := 112) tX0_layf_7 3 0 rfl) (fdB_of (k := 112) tX0_layf_7 4 50 rfl)
theorem dX0_lay_117 : decode cX0_lay 117 = .ok (.aload_n 0, 1) := dk_42 (fdB_of (k := 112) tX0_layf_7 5 42 rfl)
theorem dX0_lay_118 : decode cX0_lay 118 = .ok (.getfield 28, 3) := dk_180 (fdB_of (k := 112) tX0_layf_7 6 180 rfl) (fdB_of (k := 112) tX0_layf_7 7 0 rfl) (fdB_of (k := 112) tX0_layf_7 8 28 rfl)
theorem dX0_lay_121 : decode cX0_lay 121 = .ok (.iload_n 1, 1) := dk_27 (fdB_of (k := 112) tX0_layf_7 9 27 rfl)
theorem dX0_lay_122 : decode cX0_lay 122 = .ok (.invokevirtual 109, 3) := dk_182 (fdB_of (k := 112) tX0_layf_7 10 182 rfl) (fdB_of (k := 112) tX0_layf_7 11 0 rfl) (fdB_of (k := 112) tX0_layf_7 12 109 rfl)
theorem dX0_lay_125 : decode cX0_lay 125 = .ok (.istore_n 3, 1) := dk_62 (fdB_of (k := 112) tX0_layf_7 13 62 rfl)
theorem dX0_lay_126 : decode cX0_lay 126 = .ok (.iload_n 3, 1) := dk_29 (fdB_of (k := 112) tX0_layf_7 14 29 rfl)
theorem dX0_lay_127 : decode cX0_lay 127 = .ok (.ifCond .lt 36, 3) := dk_155 (fdB_of (k := 112) tX0_layf_7 15 155 rfl) (fdB_of (k := 128) tX0_layf_8 0 0 rfl) (fdB_of (k := 128) tX0_layf_8 1 36 rfl) (by decide +kernel)
theorem dX0_lay_130 : decode cX0_lay 130 = .ok (.aload_n 0, 1) := dk_42 (fdB_of (k := 128) tX0_layf_8 2 42 rfl)
theorem dX0_lay_131 : decode cX0_lay 131 = .ok (.getfield 24, 3) := dk_180 (fdB_of (k := 128) tX0_layf_8 3 180 rfl) (fdB_of (k := 128) tX0_layf_8 4 0 rfl) (fdB_of (k := 128) tX0_layf_8 5 24 rfl)
theorem dX0_lay_134 : decode cX0_lay 134 = .ok (.getfield 112, 3) := dk_180 (fdB_of (k := 128) tX0_layf_8 6 180 rfl) (fdB_of (k := 128) tX0_layf_8 7 0 rfl) (fdB_of (k := 128) tX0_layf_8 8 112 rfl)
theorem dX0_lay_137 : decode cX0_lay 137 = .ok (.aload_n 0, 1) := dk_42 (fdB_of (k := 128) tX0_layf_8 9 42 rfl)
theorem dX0_lay_138 : decode cX0_lay 138 = .ok (.getfield 32, 3) := dk_180 (fdB_of (k := 128) tX0_layf_8 10 180 rfl) (fdB_of (k := 128) tX0_layf_8 11 0 rfl) (fdB_of (k := 128) tX0_layf_8 12 32 rfl)
theorem dX0_lay_141 : decode cX0_lay 141 = .ok (.aload_n 0, 1) := dk_42 (fdB_of (k := 128) tX0_layf_8 13 42 rfl)
theorem dX0_lay_142 : decode cX0_lay 142 = .ok (.getfield 14, 3) := dk_180 (fdB_of (k := 128) tX0_layf_8 14 180 rfl) (fdB_of (k := 128) tX0_layf_8 15 0 rfl) (fdB_of (k := 144) tX0_layf_9 0 14 rfl)
theorem dX0_lay_145 : decode cX0_lay 145 = .ok (.iload_n 3, 1) := dk_29 (fdB_of (k := 144) tX0_layf_9 1 29 rfl)
theorem dX0_lay_146 : decode cX0_lay 146 = .ok (.invokevirtual 83, 3) := dk_182 (fdB_of (k := 144) tX0_layf_9 2 182 rfl) (fdB_of (k := 144) tX0_layf_9 3 0 rfl) (fdB_of (k := 144) tX0_layf_9 4 83 rfl)
theorem dX0_lay_149 : decode cX0_lay 149 = .ok (.aload_n 0, 1) := dk_42 (fdB_of (k := 144) tX0_layf_9 5 42 rfl)
theorem dX0_lay_150 : decode cX0_lay 150 = .ok (.getfield 14, 3) := dk_180 (fdB_of (k := 144) tX0_layf_9 6 180 rfl) (fdB_of (k := 144) tX0_layf_9 7 0 rfl) (fdB_of (k := 144) tX0_layf_9 8 14 rfl)
theorem dX0_lay_153 : decode cX0_lay 153 = .ok (.iload_n 1, 1) := dk_27 (fdB_of (k := 144) tX0_layf_9 9 27 rfl)
theorem dX0_lay_154 : decode cX0_lay 154 = .ok (.invokevirtual 83, 3) := dk_182 (fdB_of (k := 144) tX0_layf_9 10 182 rfl) (fdB_of (k := 144) tX0_layf_9 11 0 rfl) (fdB_of (k := 144) tX0_layf_9 12 83 rfl)
theorem dX0_lay_157 : decode cX0_lay 157 = .ok (.invokevirtual 116, 3) := dk_182 (fdB_of (k := 144) tX0_layf_9 13 182 rfl) (fdB_of (k := 144) tX0_layf_9 14 0 rfl) (fdB_of (k := 144) tX0_layf_9 15 116 rfl)
theorem dX0_lay_160 : decode cX0_lay 160 = .ok (.ifCond .eq 7, 3) := dk_153 (fdB_of (k := 160) tX0_layf_10 0 153 rfl) (fdB_of (k := 160) tX0_layf_10 1 0 rfl) (fdB_of (k := 160) tX0_layf_10 2 7 rfl) (by decide +kernel)
theorem dX0_lay_163 : decode cX0_lay 163 = .ok (.iconst 1, 1) := dk_4 (fdB_of (k := 160) tX0_layf_10 3 4 rfl)
theorem dX0_lay_164 : decode cX0_lay 164 = .ok (.goto 4, 3) := dk_167 (fdB_of (k := 160) tX0_layf_10 4 167 rfl) (fdB_of (k := 160) tX0_layf_10 5 0 rfl) (fdB_of (k := 160) tX0_layf_10 6 4 rfl) (by decide +kernel)
theorem dX0_lay_167 : decode cX0_lay 167 = .ok (.iconst 0, 1) := dk_3 (fdB_of (k := 160) tX0_layf_10 7 3 rfl)
theorem dX0_lay_168 : decode cX0_lay 168 = .ok (.ireturn, 1) := dk_172 (fdB_of (k := 160) tX0_layf_10 8 172 rfl)

theorem q1_135 : Cond.fieldLink RX0 14 "RhymeLaw$Choice" "row" "LRhymeLaw$Paper;" ∈ TT := tq1 135 rfl rfl
theorem q1_138 : Cond.fieldLink RX0 28 "RhymeLaw$Choice" "form" "I" ∈ TT := tq1 138 rfl rfl
theorem q1_139 : Cond.fieldLink RX0 32 "RhymeLaw$Choice" "dialect" "I" ∈ TT := tq1 139 rfl rfl
theorem q1_203 : Cond.fieldLink RX0 112 "RhymeLaw$Tale" "words" "LRhymeLaw$Words;" ∈ TT := tq1 203 rfl rfl
theorem q1_208 : Cond.fieldLink RX0 50 "RhymeLaw$Tale" "forms" "LRhymeLaw$Forms;" ∈ TT := tq1 208 rfl rfl
theorem q2_235 : Cond.instanceMethod yX4_insert ∈ TT := tq2 235 rfl rfl
theorem q2_236 : Cond.selects RX4 yX4_insert yX4_insert ∈ TT := tq2 236 rfl rfl
theorem q2_237 : Cond.code yX4_insert cX4_insert 6 none ∈ TT := tq2 237 rfl rfl
theorem q4_52 : Cond.methodLink RX0 87 yX4_thingAt ∈ TT := tq4 52 rfl rfl
theorem q4_61 : Cond.methodLink RX0 80 yX4_cut ∈ TT := tq4 61 rfl rfl
theorem q4_62 : Cond.instanceMethod yX4_cut ∈ TT := tq4 62 rfl rfl
theorem q4_63 : Cond.selects RX4 yX4_cut yX4_cut ∈ TT := tq4 63 rfl rfl
theorem q4_64 : Cond.code yX4_cut cX4_cut 2 none ∈ TT := tq4 64 rfl rfl
theorem q4_68 : Cond.methodLink RX0 83 yX4_wordAt ∈ TT := tq4 68 rfl rfl
theorem q4_69 : Cond.methodLink RX0 90 yX4_beforeAt ∈ TT := tq4 69 rfl rfl
theorem q4_70 : Cond.methodLink RX0 93 yX4_insert ∈ TT := tq4 70 rfl rfl
theorem q4_71 : Cond.methodLink RX0 97 yX6_set ∈ TT := tq4 71 rfl rfl
theorem q4_72 : Cond.methodLink RX0 101 yX1_letter ∈ TT := tq4 72 rfl rfl
theorem q4_73 : Cond.methodLink RX0 105 yX7_fits ∈ TT := tq4 73 rfl rfl
theorem q4_74 : Cond.methodLink RX0 109 yX1_ahead ∈ TT := tq4 74 rfl rfl
theorem q4_75 : Cond.methodLink RX0 116 yX10_rhyme ∈ TT := tq4 75 rfl rfl
theorem fg_RX0_14 {p : Program} {l : Launch} {e : Env} {R : Room} {s : State} {m : MethodId} {args : Array Value} {below : List Frame} {meth : Method} {c : Code} {D : gG} {tys : List (ClassId × FieldType)} {A : Nat → Prop} {nL : Nat} {Q : State → Prop} {cells slots : Nat} {cc : ByteArray} {ws : va_W} {L : List (Nat × Value)} {pc : Nat} {stk : List Value} (cx : gX p s m args meth c cc nL RX0 D tys A) {a : Nat} {fs : List Value} {v : Value} (q0 : Nat) (he : ws[q0]? = some (a, .inr (0, fs))) (hv : fs[0]? = some v) (hd : decode cc pc = .ok (.getfield 14, 3)) (kk : gW p l e R s m args below meth c D A nL Q cells slots ws L (pc + 3) (v :: stk)) : gW p l e R s m args below meth c D A nL Q cells slots ws L pc (.ref a :: stk) :=
  g_get cx (C := RX0) (T := TX0) (N := 6) inT0 rfl 0 (Nat.le_of_ble_eq_true rfl) q1_135 rfl q0 he hv hd kk
theorem lk_RX0_80 : vlk RX0 80 yX4_cut cX4_cut 2 none 1 := ⟨List.forall_mem_cons.mpr ⟨q4_61, List.forall_mem_cons.mpr ⟨q4_62, List.forall_mem_cons.mpr ⟨q4_63, List.forall_mem_cons.mpr ⟨q1_4, fun _ h => absurd h List.not_mem_nil⟩⟩⟩⟩, q4_64, by decide, by decide, by decide +kernel⟩
theorem lk_RX0_83 : vlk RX0 83 yX4_wordAt cX4_wordAt 2 (some .int) 1 := ⟨List.forall_mem_cons.mpr ⟨q4_68, List.forall_mem_cons.mpr ⟨q3_0, List.forall_mem_cons.mpr ⟨q3_1, List.forall_mem_cons.mpr ⟨q1_4, fun _ h => absurd h List.not_mem_nil⟩⟩⟩⟩, q3_2, by decide, by decide, by decide +kernel⟩
theorem lk_RX0_87 : vlk RX0 87 yX4_thingAt cX4_thingAt 2 (some .int) 1 := ⟨List.forall_mem_cons.mpr ⟨q4_52, List.forall_mem_cons.mpr ⟨q3_5, List.forall_mem_cons.mpr ⟨q3_6, List.forall_mem_cons.mpr ⟨q1_4, fun _ h => absurd h List.not_mem_nil⟩⟩⟩⟩, q3_7, by decide, by decide, by decide +kernel⟩
theorem lk_RX0_90 : vlk RX0 90 yX4_beforeAt cX4_beforeAt 2 (some .int) 1 := ⟨List.forall_mem_cons.mpr ⟨q4_69, List.forall_mem_cons.mpr ⟨q3_9, List.forall_mem_cons.mpr ⟨q3_10, List.forall_mem_cons.mpr ⟨q1_4, fun _ h => absurd h List.not_mem_nil⟩⟩⟩⟩, q3_11, by decide, by decide, by decide +kernel⟩
theorem lk_RX0_93 : vlk RX0 93 yX4_insert cX4_insert 6 none 4 := ⟨List.forall_mem_cons.mpr ⟨q4_70, List.forall_mem_cons.mpr ⟨q2_235, List.forall_mem_cons.mpr ⟨q2_236, List.forall_mem_cons.mpr ⟨q1_4, fun _ h => absurd h List.not_mem_nil⟩⟩⟩⟩, q2_237, by decide, by decide, by decide +kernel⟩
theorem lk_RX0_97 : slk RX0 97 yX6_set cX6_set 3 none 3 := ⟨List.forall_mem_cons.mpr ⟨q4_71, List.forall_mem_cons.mpr ⟨q2_178, List.forall_mem_cons.mpr ⟨q1_19, fun _ h => absurd h List.not_mem_nil⟩⟩⟩, q2_179, by decide, by decide, by decide +kernel⟩
theorem fg_RX0_50 {p : Program} {l : Launch} {e : Env} {R : Room} {s : State} {m : MethodId} {args : Array Value} {below : List Frame} {meth : Method} {c : Code} {D : gG} {tys : List (ClassId × FieldType)} {A : Nat → Prop} {nL : Nat} {Q : State → Prop} {cells slots : Nat} {cc : ByteArray} {ws : va_W} {L : List (Nat × Value)} {pc : Nat} {stk : List Value} (cx : gX p s m args meth c cc nL RX0 D tys A) {a : Nat} {fs : List Value} {v : Value} (q0 : Nat) (he : ws[q0]? = some (a, .inr (5, fs))) (hv : fs[1]? = some v) (hd : decode cc pc = .ok (.getfield 50, 3)) (kk : gW p l e R s m args below meth c D A nL Q cells slots ws L (pc + 3) (v :: stk)) : gW p l e R s m args below meth c D A nL Q cells slots ws L pc (.ref a :: stk) :=
  g_get cx (C := RX7) (T := TX7) (N := 5) inT7 rfl 1 (Nat.le_of_ble_eq_true rfl) q1_208 rfl q0 he hv hd kk
theorem fg_RX0_28 {p : Program} {l : Launch} {e : Env} {R : Room} {s : State} {m : MethodId} {args : Array Value} {below : List Frame} {meth : Method} {c : Code} {D : gG} {tys : List (ClassId × FieldType)} {A : Nat → Prop} {nL : Nat} {Q : State → Prop} {cells slots : Nat} {cc : ByteArray} {ws : va_W} {L : List (Nat × Value)} {pc : Nat} {stk : List Value} (cx : gX p s m args meth c cc nL RX0 D tys A) {a : Nat} {fs : List Value} {v : Value} (q0 : Nat) (he : ws[q0]? = some (a, .inr (0, fs))) (hv : fs[3]? = some v) (hd : decode cc pc = .ok (.getfield 28, 3)) (kk : gW p l e R s m args below meth c D A nL Q cells slots ws L (pc + 3) (v :: stk)) : gW p l e R s m args below meth c D A nL Q cells slots ws L pc (.ref a :: stk) :=
  g_get cx (C := RX0) (T := TX0) (N := 6) inT0 rfl 3 (Nat.le_of_ble_eq_true rfl) q1_138 rfl q0 he hv hd kk
theorem lk_RX0_101 : vlk RX0 101 yX1_letter cX1_letter 4 (some .int) 2 := ⟨List.forall_mem_cons.mpr ⟨q4_72, List.forall_mem_cons.mpr ⟨q3_53, List.forall_mem_cons.mpr ⟨q3_54, List.forall_mem_cons.mpr ⟨q1_11, fun _ h => absurd h List.not_mem_nil⟩⟩⟩⟩, q3_55, by decide, by decide, by decide +kernel⟩
theorem lk_RX0_105 : vlk RX0 105 yX7_fits cX7_fits 5 (some .boolean) 3 := ⟨List.forall_mem_cons.mpr ⟨q4_73, List.forall_mem_cons.mpr ⟨q3_130, List.forall_mem_cons.mpr ⟨q3_131, List.forall_mem_cons.mpr ⟨q1_9, fun _ h => absurd h List.not_mem_nil⟩⟩⟩⟩, q3_132, by decide, by decide, by decide +kernel⟩
theorem lk_RX0_109 : vlk RX0 109 yX1_ahead cX1_ahead 4 (some .int) 2 := ⟨List.forall_mem_cons.mpr ⟨q4_74, List.forall_mem_cons.mpr ⟨q3_234, List.forall_mem_cons.mpr ⟨q3_235, List.forall_mem_cons.mpr ⟨q1_11, fun _ h => absurd h List.not_mem_nil⟩⟩⟩⟩, q3_236, by decide, by decide, by decide +kernel⟩
theorem fg_RX0_112 {p : Program} {l : Launch} {e : Env} {R : Room} {s : State} {m : MethodId} {args : Array Value} {below : List Frame} {meth : Method} {c : Code} {D : gG} {tys : List (ClassId × FieldType)} {A : Nat → Prop} {nL : Nat} {Q : State → Prop} {cells slots : Nat} {cc : ByteArray} {ws : va_W} {L : List (Nat × Value)} {pc : Nat} {stk : List Value} (cx : gX p s m args meth c cc nL RX0 D tys A) {a : Nat} {fs : List Value} {v : Value} (q0 : Nat) (he : ws[q0]? = some (a, .inr (5, fs))) (hv : fs[0]? = some v) (hd : decode cc pc = .ok (.getfield 112, 3)) (kk : gW p l e R s m args below meth c D A nL Q cells slots ws L (pc + 3) (v :: stk)) : gW p l e R s m args below meth c D A nL Q cells slots ws L pc (.ref a :: stk) :=
  g_get cx (C := RX7) (T := TX7) (N := 5) inT7 rfl 0 (Nat.le_of_ble_eq_true rfl) q1_203 rfl q0 he hv hd kk
theorem fg_RX0_32 {p : Program} {l : Launch} {e : Env} {R : Room} {s : State} {m : MethodId} {args : Array Value} {below : List Frame} {meth : Method} {c : Code} {D : gG} {tys : List (ClassId × FieldType)} {A : Nat → Prop} {nL : Nat} {Q : State → Prop} {cells slots : Nat} {cc : ByteArray} {ws : va_W} {L : List (Nat × Value)} {pc : Nat} {stk : List Value} (cx : gX p s m args meth c cc nL RX0 D tys A) {a : Nat} {fs : List Value} {v : Value} (q0 : Nat) (he : ws[q0]? = some (a, .inr (0, fs))) (hv : fs[4]? = some v) (hd : decode cc pc = .ok (.getfield 32, 3)) (kk : gW p l e R s m args below meth c D A nL Q cells slots ws L (pc + 3) (v :: stk)) : gW p l e R s m args below meth c D A nL Q cells slots ws L pc (.ref a :: stk) :=
  g_get cx (C := RX0) (T := TX0) (N := 6) inT0 rfl 4 (Nat.le_of_ble_eq_true rfl) q1_139 rfl q0 he hv hd kk
theorem lk_RX0_116 : vlk RX0 116 yX10_rhyme cX10_rhyme 4 (some .boolean) 3 := ⟨List.forall_mem_cons.mpr ⟨q4_75, List.forall_mem_cons.mpr ⟨q3_136, List.forall_mem_cons.mpr ⟨q3_137, List.forall_mem_cons.mpr ⟨q1_10, fun _ h => absurd h List.not_mem_nil⟩⟩⟩⟩, q3_138, by decide, by decide, by decide +kernel⟩
def F_X0_lay (s_o : S0) (s_o_row : S4) (s_o_tale : S7) (s_o_tale_forms : S1) (s_o_tale_stock : S4) (s_o_tale_words : S10) (x1 : Int32) (x2 : Int32) : Option (Int32 × S0 × S4) := (F_X4_cut s_o_row x1).bind fun q_1 => (F_X4_wordAt s_o_tale_stock x2).bind fun q_2 => (F_X4_thingAt s_o_tale_stock x2).bind fun q_3 => (F_X4_beforeAt s_o_tale_stock x2).bind fun q_4 => (F_X4_insert q_1 x1 q_2 q_3 q_4).bind fun q_5 => (F_X6_set 6 (s0_picks s_o) x1 x2).bind fun q_6 => (F_X1_letter s_o_tale_forms (s0_form (u0_picks s_o q_6)) x1).bind fun q_7 => (F_X4_wordAt q_5 x1).bind fun q_8 => (F_X4_beforeAt q_5 x1).bind fun q_9 => (F_X7_fits s_o_tale s_o_tale_words q_7 q_8 q_9).bind fun q_10 => (if q_10 = 0 then some (0, (u0_picks s_o q_6), q_5) else (F_X1_ahead s_o_tale_forms (s0_form (u0_picks s_o q_6)) x1).bind fun q_11 => nm q_11 fun v3_12 => (if v3_12 < 0 then some (1, (u0_picks s_o q_6), q_5) else (F_X4_wordAt q_5 v3_12).bind fun q_13 => (F_X4_wordAt q_5 x1).bind fun q_14 => (F_X10_rhyme s_o_tale_words (s0_dialect (u0_picks s_o q_6)) q_13 q_14).bind fun q_15 => (if q_15 = 0 then some (0, (u0_picks s_o q_6), q_5) else some (1, (u0_picks s_o q_6), q_5))))
def w_X0_lay (o o_row o_tale o_tale_forms o_tale_stock o_tale_words o_tale_paper : Nat → Nat) (cB cI cJ cZ : ClassId) (s_o : S0) (s_o_row : S4) (s_o_tale : S7) (s_o_tale_forms : S1) (s_o_tale_stock : S4) (s_o_tale_words : S10) (rf_o_tale : Value) : va_W := List.flatten [(gX0 o cB cI cJ cZ (o_row 0) rf_o_tale s_o), (gX4 o_row cB cI cJ cZ s_o_row), (gX7 o_tale cB cI cJ cZ (o_tale_words 0) (o_tale_forms 0) (o_tale_paper 0) (o_tale_stock 0) s_o_tale), (gX1 o_tale_forms cB cI cJ cZ s_o_tale_forms), (gX4 o_tale_stock cB cI cJ cZ s_o_tale_stock), (gX10 o_tale_words cB cI cJ cZ s_o_tale_words)]
abbrev rm_X0_lay : Room := { frames := 3, cells := 0, slots := 0, locals := 71 }
set_option maxHeartbeats 4000000 in
set_option maxRecDepth 100000 in
theorem c_X0_lay (l : Launch) (D : gG) (cB cI cJ cZ : ClassId) (o o_row o_tale o_tale_forms o_tale_stock o_tale_words o_tale_paper : Nat → Nat) (s_o : S0) (s_o_row : S4) (s_o_tale : S7) (s_o_tale_forms : S1) (s_o_tale_stock : S4) (s_o_tale_words : S10) (x1 : Int32) (x2 : Int32) (r : Int32 × S0 × S4) (hf : F_X0_lay s_o s_o_row s_o_tale s_o_tale_forms s_o_tale_stock s_o_tale_words x1 x2 = some r) : gM l D (tyL cB cI cJ cZ) yX0_lay cX0_lay 4 (some .boolean) rm_X0_lay [.ref (o 0), .int x1, .int x2] (w_X0_lay o o_row o_tale o_tale_forms o_tale_stock o_tale_words o_tale_paper cB cI cJ cZ s_o s_o_row s_o_tale s_o_tale_forms s_o_tale_stock s_o_tale_words (.ref (o_tale 0))) (some (.int r.1)) (w_X0_lay o o_row o_tale o_tale_forms o_tale_stock o_tale_words o_tale_paper cB cI cJ cZ r.2.1 r.2.2 s_o_tale s_o_tale_forms s_o_tale_stock s_o_tale_words (.ref (o_tale 0))) := by
  refine met_of (by decide) (Nat.le_of_ble_eq_true rfl) ?_
  intro p e s m args below meth c A cx hr hA
  show gW p l e rm_X0_lay s m args below meth c D A 4 _ 0 0 _ [(0, .ref (o 0)), (1, .int x1), (2, .int x2)] 0 []
  rw [F_X0_lay] at hf
  refine g_aln cx 0 dX0_lay_0 rfl ?_
  refine fg_RX0_24 cx 0 rfl rfl dX0_lay_1 ?_
  refine g_nn (tgt := 9) cx dX0_lay_4 rfl ?_
  refine g_aln cx 0 dX0_lay_9 rfl ?_
  refine fg_RX0_14 cx 0 rfl rfl dX0_lay_10 ?_
  refine g_iln cx 1 dX0_lay_13 rfl ?_
  refine ob hf (fun q_1 hq_1 hf => ?_)
  refine g_callVGv (gs' := [(gX0 o cB cI cJ cZ (o_row 0) (.ref (o_tale 0)) s_o), (gX4 o_row cB cI cJ cZ q_1), (gX7 o_tale cB cI cJ cZ (o_tale_words 0) (o_tale_forms 0) (o_tale_paper 0) (o_tale_stock 0) s_o_tale), (gX1 o_tale_forms cB cI cJ cZ s_o_tale_forms), (gX4 o_tale_stock cB cI cJ cZ s_o_tale_stock), (gX10 o_tale_words cB cI cJ cZ s_o_tale_words)]) cx lk_RX0_80 (c_X4_cut l D cB cI cJ cZ o_row s_o_row x1 q_1 hq_1) rfl [1] rfl rfl rfl rfl (ci := 4) (q1 := 0) rfl rfl rfl (Nat.le_of_ble_eq_true rfl) ⟨rfl, rfl, Nat.le_of_ble_eq_true rfl, Nat.le_of_ble_eq_true rfl⟩ dX0_lay_14 ?_
  refine g_aln cx 0 dX0_lay_17 rfl ?_
  refine fg_RX0_14 cx 0 rfl rfl dX0_lay_18 ?_
  refine g_iln cx 1 dX0_lay_21 rfl ?_
  refine g_aln cx 0 dX0_lay_22 rfl ?_
  refine fg_RX0_24 cx 0 rfl rfl dX0_lay_23 ?_
  refine fg_RX0_38 cx 6 rfl rfl dX0_lay_26 ?_
  refine g_iln cx 2 dX0_lay_29 rfl ?_
  refine ob hf (fun q_2 hq_2 hf => ?_)
  refine g_callVGiR cx lk_RX0_83 (c_X4_wordAt l D cB cI cJ cZ o_tale_stock s_o_tale_stock x2 q_2 hq_2) rfl [4] rfl rfl (ci := 4) (q1 := 0) rfl rfl rfl (Nat.le_of_ble_eq_true rfl) ⟨rfl, rfl, Nat.le_of_ble_eq_true rfl, Nat.le_of_ble_eq_true rfl⟩ dX0_lay_30 ?_
  refine g_aln cx 0 dX0_lay_33 rfl ?_
  refine fg_RX0_24 cx 0 rfl rfl dX0_lay_34 ?_
  refine fg_RX0_38 cx 6 rfl rfl dX0_lay_37 ?_
  refine g_iln cx 2 dX0_lay_40 rfl ?_
  refine ob hf (fun q_3 hq_3 hf => ?_)
  refine g_callVGiR cx lk_RX0_87 (c_X4_thingAt l D cB cI cJ cZ o_tale_stock s_o_tale_stock x2 q_3 hq_3) rfl [4] rfl rfl (ci := 4) (q1 := 0) rfl rfl rfl (Nat.le_of_ble_eq_true rfl) ⟨rfl, rfl, Nat.le_of_ble_eq_true rfl, Nat.le_of_ble_eq_true rfl⟩ dX0_lay_41 ?_
  refine g_aln cx 0 dX0_lay_44 rfl ?_
  refine fg_RX0_24 cx 0 rfl rfl dX0_lay_45 ?_
  refine fg_RX0_38 cx 6 rfl rfl dX0_lay_48 ?_
  refine g_iln cx 2 dX0_lay_51 rfl ?_
  refine ob hf (fun q_4 hq_4 hf => ?_)
  refine g_callVGiR cx lk_RX0_90 (c_X4_beforeAt l D cB cI cJ cZ o_tale_stock s_o_tale_stock x2 q_4 hq_4) rfl [4] rfl rfl (ci := 4) (q1 := 0) rfl rfl rfl (Nat.le_of_ble_eq_true rfl) ⟨rfl, rfl, Nat.le_of_ble_eq_true rfl, Nat.le_of_ble_eq_true rfl⟩ dX0_lay_52 ?_
  refine ob hf (fun q_5 hq_5 hf => ?_)
  refine g_callVGv (gs' := [(gX0 o cB cI cJ cZ (o_row 0) (.ref (o_tale 0)) s_o), (gX4 o_row cB cI cJ cZ q_5), (gX7 o_tale cB cI cJ cZ (o_tale_words 0) (o_tale_forms 0) (o_tale_paper 0) (o_tale_stock 0) s_o_tale), (gX1 o_tale_forms cB cI cJ cZ s_o_tale_forms), (gX4 o_tale_stock cB cI cJ cZ s_o_tale_stock), (gX10 o_tale_words cB cI cJ cZ s_o_tale_words)]) cx lk_RX0_93 (c_X4_insert l D cB cI cJ cZ o_row q_1 x1 q_2 q_3 q_4 q_5 hq_5) rfl [1] rfl rfl rfl rfl (ci := 4) (q1 := 0) rfl rfl rfl (Nat.le_of_ble_eq_true rfl) ⟨rfl, rfl, Nat.le_of_ble_eq_true rfl, Nat.le_of_ble_eq_true rfl⟩ dX0_lay_55 ?_
  refine g_aln cx 0 dX0_lay_58 rfl ?_
  refine fg_RX0_20 cx 0 rfl rfl dX0_lay_59 ?_
  refine g_iln cx 1 dX0_lay_62 rfl ?_
  refine g_iln cx 2 dX0_lay_63 rfl ?_
  refine ob hf (fun q_6 hq_6 hf => ?_)
  refine g_callSv cx lk_RX0_97 (c_X6_set l D cB cI cJ cZ (o 1) 6 (s0_picks s_o) x1 x2 q_6 hq_6) rfl [1] rfl rfl (ws' := (w_X0_lay o o_row o_tale o_tale_forms o_tale_stock o_tale_words o_tale_paper cB cI cJ cZ (u0_picks s_o q_6) q_5 s_o_tale s_o_tale_forms s_o_tale_stock s_o_tale_words (.ref (o_tale 0)))) rfl rfl rfl (Nat.le_of_ble_eq_true rfl) ⟨rfl, rfl, Nat.le_of_ble_eq_true rfl, Nat.le_of_ble_eq_true rfl⟩ dX0_lay_64 ?_
  refine g_aln cx 0 dX0_lay_67 rfl ?_
  refine fg_RX0_24 cx 0 rfl rfl dX0_lay_68 ?_
  refine g_aln cx 0 dX0_lay_71 rfl ?_
  refine fg_RX0_24 cx 0 rfl rfl dX0_lay_72 ?_
  refine fg_RX0_50 cx 6 rfl rfl dX0_lay_75 ?_
  refine g_aln cx 0 dX0_lay_78 rfl ?_
  refine fg_RX0_28 cx 0 rfl rfl dX0_lay_79 ?_
  refine g_iln cx 1 dX0_lay_82 rfl ?_
  refine ob hf (fun q_7 hq_7 hf => ?_)
  refine g_callVGiR cx lk_RX0_101 (c_X1_letter l D cB cI cJ cZ o_tale_forms s_o_tale_forms (s0_form (u0_picks s_o q_6)) x1 q_7 hq_7) rfl [3] rfl rfl (ci := 1) (q1 := 0) rfl rfl rfl (Nat.le_of_ble_eq_true rfl) ⟨rfl, rfl, Nat.le_of_ble_eq_true rfl, Nat.le_of_ble_eq_true rfl⟩ dX0_lay_83 ?_
  refine g_aln cx 0 dX0_lay_86 rfl ?_
  refine fg_RX0_14 cx 0 rfl rfl dX0_lay_87 ?_
  refine g_iln cx 1 dX0_lay_90 rfl ?_
  refine ob hf (fun q_8 hq_8 hf => ?_)
  refine g_callVGiR cx lk_RX0_83 (c_X4_wordAt l D cB cI cJ cZ o_row q_5 x1 q_8 hq_8) rfl [1] rfl rfl (ci := 4) (q1 := 0) rfl rfl rfl (Nat.le_of_ble_eq_true rfl) ⟨rfl, rfl, Nat.le_of_ble_eq_true rfl, Nat.le_of_ble_eq_true rfl⟩ dX0_lay_91 ?_
  refine g_aln cx 0 dX0_lay_94 rfl ?_
  refine fg_RX0_14 cx 0 rfl rfl dX0_lay_95 ?_
  refine g_iln cx 1 dX0_lay_98 rfl ?_
  refine ob hf (fun q_9 hq_9 hf => ?_)
  refine g_callVGiR cx lk_RX0_90 (c_X4_beforeAt l D cB cI cJ cZ o_row q_5 x1 q_9 hq_9) rfl [1] rfl rfl (ci := 4) (q1 := 0) rfl rfl rfl (Nat.le_of_ble_eq_true rfl) ⟨rfl, rfl, Nat.le_of_ble_eq_true rfl, Nat.le_of_ble_eq_true rfl⟩ dX0_lay_99 ?_
  refine ob hf (fun q_10 hq_10 hf => ?_)
  refine g_callVGiR cx lk_RX0_105 (c_X7_fits l D cB cI cJ cZ o_tale o_tale_words o_tale_forms o_tale_paper o_tale_stock s_o_tale s_o_tale_words q_7 q_8 q_9 q_10 hq_10) rfl [2, 5] rfl rfl (ci := 5) (q1 := 0) rfl rfl rfl (Nat.le_of_ble_eq_true rfl) ⟨rfl, rfl, Nat.le_of_ble_eq_true rfl, Nat.le_of_ble_eq_true rfl⟩ dX0_lay_102 ?_
  refine g_if_ne (tgt := 110) cx hf dX0_lay_105 rfl (fun hf => ?_) (fun hf => ?_)
  · refine g_aln cx 0 dX0_lay_110 rfl ?_
    refine fg_RX0_24 cx 0 rfl rfl dX0_lay_111 ?_
    refine fg_RX0_50 cx 6 rfl rfl dX0_lay_114 ?_
    refine g_aln cx 0 dX0_lay_117 rfl ?_
    refine fg_RX0_28 cx 0 rfl rfl dX0_lay_118 ?_
    refine g_iln cx 1 dX0_lay_121 rfl ?_
    refine ob hf (fun q_11 hq_11 hf => ?_)
    refine g_callVGiR cx lk_RX0_109 (c_X1_ahead l D cB cI cJ cZ o_tale_forms s_o_tale_forms (s0_form (u0_picks s_o q_6)) x1 q_11 hq_11) rfl [3] rfl rfl (ci := 1) (q1 := 0) rfl rfl rfl (Nat.le_of_ble_eq_true rfl) ⟨rfl, rfl, Nat.le_of_ble_eq_true rfl, Nat.le_of_ble_eq_true rfl⟩ dX0_lay_122 ?_
    refine g_isn cx (L2 := fun v3_12 => [(3, .int v3_12), (0, .ref (o 0)), (1, .int x1), (2, .int x2)]) hf dX0_lay_125 (Nat.le_of_ble_eq_true rfl) (fun _ => rfl) (fun v3_12 hf => ?_)
    refine g_iln cx 0 dX0_lay_126 rfl ?_
    refine g_if_lt (tgt := 163) cx hf dX0_lay_127 rfl (fun hf => ?_) (fun hf => ?_)
    · refine g_ic cx dX0_lay_163 k_ic1 ?_
      refine g_goto (tgt := 168) cx dX0_lay_164 rfl ?_
      exact g_zret (ovf := fun (r : Int32 × S0 × S4) => (some (.int r.1))) (wf := fun (r : Int32 × S0 × S4) => (w_X0_lay o o_row o_tale o_tale_forms o_tale_stock o_tale_words o_tale_paper cB cI cJ cZ r.2.1 r.2.2 s_o_tale s_o_tale_forms s_o_tale_stock s_o_tale_words (.ref (o_tale 0)))) cx hA hr rfl hf rfl rfl dX0_lay_168
    · refine g_aln cx 1 dX0_lay_130 rfl ?_
      refine fg_RX0_24 cx 0 rfl rfl dX0_lay_131 ?_
      refine fg_RX0_112 cx 6 rfl rfl dX0_lay_134 ?_
      refine g_aln cx 1 dX0_lay_137 rfl ?_
      refine fg_RX0_32 cx 0 rfl rfl dX0_lay_138 ?_
      refine g_aln cx 1 dX0_lay_141 rfl ?_
      refine fg_RX0_14 cx 0 rfl rfl dX0_lay_142 ?_
      refine g_iln cx 0 dX0_lay_145 rfl ?_
      refine ob hf (fun q_13 hq_13 hf => ?_)
      refine g_callVGiR cx lk_RX0_83 (c_X4_wordAt l D cB cI cJ cZ o_row q_5 v3_12 q_13 hq_13) rfl [1] rfl rfl (ci := 4) (q1 := 0) rfl rfl rfl (Nat.le_of_ble_eq_true rfl) ⟨rfl, rfl, Nat.le_of_ble_eq_true rfl, Nat.le_of_ble_eq_true rfl⟩ dX0_lay_146 ?_
      refine g_aln cx 1 dX0_lay_149 rfl ?_
      refine fg_RX0_14 cx 0 rfl rfl dX0_lay_150 ?_
      refine g_iln cx 2 dX0_lay_153 rfl ?_
      refine ob hf (fun q_14 hq_14 hf => ?_)
      refine g_callVGiR cx lk_RX0_83 (c_X4_wordAt l D cB cI cJ cZ o_row q_5 x1 q_14 hq_14) rfl [1] rfl rfl (ci := 4) (q1 := 0) rfl rfl rfl (Nat.le_of_ble_eq_true rfl) ⟨rfl, rfl, Nat.le_of_ble_eq_true rfl, Nat.le_of_ble_eq_true rfl⟩ dX0_lay_154 ?_
      refine ob hf (fun q_15 hq_15 hf => ?_)
      refine g_callVGiR cx lk_RX0_116 (c_X10_rhyme l D cB cI cJ cZ o_tale_words s_o_tale_words (s0_dialect (u0_picks s_o q_6)) q_13 q_14 q_15 hq_15) rfl [5] rfl rfl (ci := 8) (q1 := 0) rfl rfl rfl (Nat.le_of_ble_eq_true rfl) ⟨rfl, rfl, Nat.le_of_ble_eq_true rfl, Nat.le_of_ble_eq_true rfl⟩ dX0_lay_157 ?_
      refine g_if_eq (tgt := 167) cx hf dX0_lay_160 rfl (fun hf => ?_) (fun hf => ?_)
      · refine g_ic cx dX0_lay_167 k_ic0 ?_
        exact g_zret (ovf := fun (r : Int32 × S0 × S4) => (some (.int r.1))) (wf := fun (r : Int32 × S0 × S4) => (w_X0_lay o o_row o_tale o_tale_forms o_tale_stock o_tale_words o_tale_paper cB cI cJ cZ r.2.1 r.2.2 s_o_tale s_o_tale_forms s_o_tale_stock s_o_tale_words (.ref (o_tale 0)))) cx hA hr rfl hf rfl rfl dX0_lay_168
      · refine g_ic cx dX0_lay_163 k_ic1 ?_
        refine g_goto (tgt := 168) cx dX0_lay_164 rfl ?_
        exact g_zret (ovf := fun (r : Int32 × S0 × S4) => (some (.int r.1))) (wf := fun (r : Int32 × S0 × S4) => (w_X0_lay o o_row o_tale o_tale_forms o_tale_stock o_tale_words o_tale_paper cB cI cJ cZ r.2.1 r.2.2 s_o_tale s_o_tale_forms s_o_tale_stock s_o_tale_words (.ref (o_tale 0)))) cx hA hr rfl hf rfl rfl dX0_lay_168
  · refine g_ic cx dX0_lay_108 k_ic0 ?_
    exact g_zret (ovf := fun (r : Int32 × S0 × S4) => (some (.int r.1))) (wf := fun (r : Int32 × S0 × S4) => (w_X0_lay o o_row o_tale o_tale_forms o_tale_stock o_tale_words o_tale_paper cB cI cJ cZ r.2.1 r.2.2 s_o_tale s_o_tale_forms s_o_tale_stock s_o_tale_words (.ref (o_tale 0)))) cx hA hr rfl hf rfl rfl dX0_lay_109
theorem dX0_hasThings_0 : decode cX0_hasThings 0 = .ok (.iconst 0, 1) := by decide +kernel
theorem dX0_hasThings_1 : decode cX0_hasThings 1 = .ok (.istore_n 1, 1) := by decide +kernel
theorem dX0_hasThings_2 : decode cX0_hasThings 2 = .ok (.iconst 0, 1) := by decide +kernel
theorem dX0_hasThings_3 : decode cX0_hasThings 3 = .ok (.istore_n 2, 1) := by decide +kernel
theorem dX0_hasThings_4 : decode cX0_hasThings 4 = .ok (.iload_n 2, 1) := by decide +kernel
theorem dX0_hasThings_5 : decode cX0_hasThings 5 = .ok (.aload_n 0, 1) := by decide +kernel
theorem dX0_hasThings_6 : decode cX0_hasThings 6 = .ok (.getfield 14, 3) := by decide +kernel
theorem dX0_hasThings_9 : decode cX0_hasThings 9 = .ok (.invokevirtual 43, 3) := by decide +kernel
theorem dX0_hasThings_12 : decode cX0_hasThings 12 = .ok (.if_icmp .ge 22, 3) := by decide +kernel
theorem dX0_hasThings_15 : decode cX0_hasThings 15 = .ok (.iload_n 1, 1) := by decide +kernel
theorem dX0_hasThings_16 : decode cX0_hasThings 16 = .ok (.iconst 1, 1) := by decide +kernel
theorem dX0_hasThings_17 : decode cX0_hasThings 17 = .ok (.aload_n 0, 1) := by decide +kernel
theorem dX0_hasThings_18 : decode cX0_hasThings 18 = .ok (.getfield 14, 3) := by decide +kernel
theorem dX0_hasThings_21 : decode cX0_hasThings 21 = .ok (.iload_n 2, 1) := by decide +kernel
theorem dX0_hasThings_22 : decode cX0_hasThings 22 = .ok (.invokevirtual 87, 3) := by decide +kernel
theorem dX0_hasThings_25 : decode cX0_hasThings 25 = .ok (.ishl, 1) := by decide +kernel
theorem dX0_hasThings_26 : decode cX0_hasThings 26 = .ok (.ior, 1) := by decide +kernel
theorem dX0_hasThings_27 : decode cX0_hasThings 27 = .ok (.istore_n 1, 1) := by decide +kernel
theorem dX0_hasThings_28 : decode cX0_hasThings 28 = .ok (.iinc 2 1, 3) := by decide +kernel
theorem dX0_hasThings_31 : decode cX0_hasThings 31 = .ok (.goto (-27), 3) := by decide +kernel
theorem dX0_hasThings_34 : decode cX0_hasThings 34 = .ok (.iload_n 1, 1) := by decide +kernel
theorem dX0_hasThings_35 : decode cX0_hasThings 35 = .ok (.aload_n 0, 1) := by decide +kernel
theorem dX0_hasThings_36 : decode cX0_hasThings 36 = .ok (.getfield 35, 3) := by decide +kernel
theorem dX0_hasThings_39 : decode cX0_hasThings 39 = .ok (.iand, 1) := by decide +kernel
theorem dX0_hasThings_40 : decode cX0_hasThings 40 = .ok (.aload_n 0, 1) := by decide +kernel
theorem dX0_hasThings_41 : decode cX0_hasThings 41 = .ok (.getfield 35, 3) := by decide +kernel
theorem dX0_hasThings_44 : decode cX0_hasThings 44 = .ok (.if_icmp .ne 7, 3) := by decide +kernel
theorem dX0_hasThings_47 : decode cX0_hasThings 47 = .ok (.iconst 1, 1) := by decide +kernel
theorem dX0_hasThings_48 : decode cX0_hasThings 48 = .ok (.goto 4, 3) := by decide +kernel
theorem dX0_hasThings_51 : decode cX0_hasThings 51 = .ok (.iconst 0, 1) := by decide +kernel
theorem dX0_hasThings_52 : decode cX0_hasThings 52 = .ok (.ireturn, 1) := by decide +kernel
theorem q1_140 : Cond.fieldLink RX0 35 "RhymeLaw$Choice" "things" "I" ∈ TT := tq1 140 rfl rfl
theorem fg_RX0_35 {p : Program} {l : Launch} {e : Env} {R : Room} {s : State} {m : MethodId} {args : Array Value} {below : List Frame} {meth : Method} {c : Code} {D : gG} {tys : List (ClassId × FieldType)} {A : Nat → Prop} {nL : Nat} {Q : State → Prop} {cells slots : Nat} {cc : ByteArray} {ws : va_W} {L : List (Nat × Value)} {pc : Nat} {stk : List Value} (cx : gX p s m args meth c cc nL RX0 D tys A) {a : Nat} {fs : List Value} {v : Value} (q0 : Nat) (he : ws[q0]? = some (a, .inr (0, fs))) (hv : fs[5]? = some v) (hd : decode cc pc = .ok (.getfield 35, 3)) (kk : gW p l e R s m args below meth c D A nL Q cells slots ws L (pc + 3) (v :: stk)) : gW p l e R s m args below meth c D A nL Q cells slots ws L pc (.ref a :: stk) :=
  g_get cx (C := RX0) (T := TX0) (N := 6) inT0 rfl 5 (Nat.le_of_ble_eq_true rfl) q1_140 rfl q0 he hv hd kk
def F_X0_hasThings_b4 (s_o : S0) (s_o_row : S4) : Nat → Int32 → Int32 → Option (Int32)
  | 0, _, _ => none
  | n + 1, v1, v2 => (F_X4_size s_o_row).bind fun q_1 => (if q_1 ≤ v2 then (if (v1 &&& (s0_things s_o)) = (s0_things s_o) then some (1) else some (0)) else (F_X4_thingAt s_o_row v2).bind fun q_2 => nm (v1 ||| (1 <<< (q_2 &&& 31))) fun v1_3 => nm (v2 + 1) fun v2_4 => (F_X0_hasThings_b4 s_o s_o_row n) v1_3 v2_4)
def F_X0_hasThings (s_o : S0) (s_o_row : S4) : Option (Int32) := nm 0 fun v1_5 => nm 0 fun v2_6 => F_X0_hasThings_b4 s_o s_o_row fu v1_5 v2_6
def w_X0_hasThings (o o_row o_tale : Nat → Nat) (cB cI cJ cZ : ClassId) (s_o : S0) (s_o_row : S4) (rf_o_tale : Value) : va_W := List.flatten [(gX0 o cB cI cJ cZ (o_row 0) rf_o_tale s_o), (gX4 o_row cB cI cJ cZ s_o_row)]
abbrev rm_X0_hasThings : Room := { frames := 2, cells := 0, slots := 0, locals := 42 }
set_option maxHeartbeats 4000000 in
set_option maxRecDepth 100000 in
theorem c_X0_hasThings (l : Launch) (D : gG) (cB cI cJ cZ : ClassId) (o o_row o_tale : Nat → Nat) (s_o : S0) (s_o_row : S4) (r : Int32) (hf : F_X0_hasThings s_o s_o_row = some r) : gM l D (tyL cB cI cJ cZ) yX0_hasThings cX0_hasThings 3 (some .boolean) rm_X0_hasThings [.ref (o 0)] (w_X0_hasThings o o_row o_tale cB cI cJ cZ s_o s_o_row (.ref (o_tale 0))) (some (.int r)) (w_X0_hasThings o o_row o_tale cB cI cJ cZ s_o s_o_row (.ref (o_tale 0))) := by
  refine met_of (by decide) (Nat.le_of_ble_eq_true rfl) ?_
  intro p e s m args below meth c A cx hr hA
  show gW p l e rm_X0_hasThings s m args below meth c D A 3 _ 0 0 _ [(0, .ref (o 0))] 0 []
  have h4 : ∀ (n : Nat) (v1 : Int32) (v2 : Int32), F_X0_hasThings_b4 s_o s_o_row n v1 v2 = some r → gW p l e rm_X0_hasThings s m args below meth c D A 3 (MQ below (QM D (tyL cB cI cJ cZ) (some (.int r)) (w_X0_hasThings o o_row o_tale cB cI cJ cZ s_o s_o_row (.ref (o_tale 0))) (w_X0_hasThings o o_row o_tale cB cI cJ cZ s_o s_o_row (.ref (o_tale 0))) s.heap.size) args s 0 0 A) 0 0 (w_X0_hasThings o o_row o_tale cB cI cJ cZ s_o s_o_row (.ref (o_tale 0))) [(0, .ref (o 0)), (1, .int v1), (2, .int v2)] 4 [] := by
    intro n
    induction n with
    | zero => intro v1 v2 hf; rw [F_X0_hasThings_b4] at hf; cases hf
    | succ n ih =>
      intro v1 v2 hf
      rw [F_X0_hasThings_b4] at hf
      refine g_iln cx 2 dX0_hasThings_4 rfl ?_
      refine g_aln cx 0 dX0_hasThings_5 rfl ?_
      refine fg_RX0_14 cx 0 rfl rfl dX0_hasThings_6 ?_
      refine ob hf (fun q_1 hq_1 hf => ?_)
      refine g_callVGiR cx lk_RX0_43 (c_X4_size l D cB cI cJ cZ o_row s_o_row q_1 hq_1) rfl [1] rfl rfl (ci := 4) (q1 := 0) rfl rfl rfl (Nat.le_of_ble_eq_true rfl) ⟨rfl, rfl, Nat.le_of_ble_eq_true rfl, Nat.le_of_ble_eq_true rfl⟩ dX0_hasThings_9 ?_
      refine g_ic_ge (tgt := 34) cx hf dX0_hasThings_12 rfl (fun hf => ?_) (fun hf => ?_)
      · refine g_iln cx 1 dX0_hasThings_34 rfl ?_
        refine g_aln cx 0 dX0_hasThings_35 rfl ?_
        refine fg_RX0_35 cx 0 rfl rfl dX0_hasThings_36 ?_
        refine g_iand cx dX0_hasThings_39 ?_
        refine g_aln cx 0 dX0_hasThings_40 rfl ?_
        refine fg_RX0_35 cx 0 rfl rfl dX0_hasThings_41 ?_
        refine g_ic_ne (tgt := 51) cx hf dX0_hasThings_44 rfl (fun hf => ?_) (fun hf => ?_)
        · refine g_ic cx dX0_hasThings_51 k_ic0 ?_
          exact g_zret (ovf := fun (r : Int32) => (some (.int r))) (wf := fun (r : Int32) => (w_X0_hasThings o o_row o_tale cB cI cJ cZ s_o s_o_row (.ref (o_tale 0)))) cx hA hr rfl hf rfl rfl dX0_hasThings_52
        · refine g_ic cx dX0_hasThings_47 k_ic1 ?_
          refine g_goto (tgt := 52) cx dX0_hasThings_48 rfl ?_
          exact g_zret (ovf := fun (r : Int32) => (some (.int r))) (wf := fun (r : Int32) => (w_X0_hasThings o o_row o_tale cB cI cJ cZ s_o s_o_row (.ref (o_tale 0)))) cx hA hr rfl hf rfl rfl dX0_hasThings_52
      · refine g_iln cx 1 dX0_hasThings_15 rfl ?_
        refine g_ic cx dX0_hasThings_16 k_ic1 ?_
        refine g_aln cx 0 dX0_hasThings_17 rfl ?_
        refine fg_RX0_14 cx 0 rfl rfl dX0_hasThings_18 ?_
        refine g_iln cx 2 dX0_hasThings_21 rfl ?_
        refine ob hf (fun q_2 hq_2 hf => ?_)
        refine g_callVGiR cx lk_RX0_87 (c_X4_thingAt l D cB cI cJ cZ o_row s_o_row v2 q_2 hq_2) rfl [1] rfl rfl (ci := 4) (q1 := 0) rfl rfl rfl (Nat.le_of_ble_eq_true rfl) ⟨rfl, rfl, Nat.le_of_ble_eq_true rfl, Nat.le_of_ble_eq_true rfl⟩ dX0_hasThings_22 ?_
        refine g_ishl cx dX0_hasThings_25 ?_
        refine g_ior cx dX0_hasThings_26 ?_
        refine g_isn cx (L2 := fun v1_3 => [(1, .int v1_3), (0, .ref (o 0)), (2, .int v2)]) hf dX0_hasThings_27 (Nat.le_of_ble_eq_true rfl) (fun _ => rfl) (fun v1_3 hf => ?_)
        refine g_inc cx (L2 := fun v2_4 => [(2, .int v2_4), (1, .int v1_3), (0, .ref (o 0))]) 2 hf dX0_hasThings_28 rfl (k_inc1 _) (Nat.le_of_ble_eq_true rfl) (fun _ => rfl) (fun v2_4 hf => ?_)
        refine g_goto (tgt := 4) cx dX0_hasThings_31 rfl ?_
        refine g_sub [2, 1, 0] rfl ?_
        exact ih _ _ hf
  rw [F_X0_hasThings] at hf
  refine g_ic cx dX0_hasThings_0 k_ic0 ?_
  refine g_isn cx (L2 := fun v1_5 => [(1, .int v1_5), (0, .ref (o 0))]) hf dX0_hasThings_1 (Nat.le_of_ble_eq_true rfl) (fun _ => rfl) (fun v1_5 hf => ?_)
  refine g_ic cx dX0_hasThings_2 k_ic0 ?_
  refine g_isn cx (L2 := fun v2_6 => [(2, .int v2_6), (1, .int v1_5), (0, .ref (o 0))]) hf dX0_hasThings_3 (Nat.le_of_ble_eq_true rfl) (fun _ => rfl) (fun v2_6 hf => ?_)
  refine g_sub [2, 1, 0] rfl ?_
  exact h4 fu _ _ hf
theorem dX0_extend_0 : decode cX0_extend 0 = .ok (.iload_n 2, 1) := by decide +kernel
theorem dX0_extend_1 : decode cX0_extend 1 = .ok (.iload_n 1, 1) := by decide +kernel
theorem dX0_extend_2 : decode cX0_extend 2 = .ok (.if_icmp .ge 9, 3) := by decide +kernel
theorem dX0_extend_5 : decode cX0_extend 5 = .ok (.iload_n 2, 1) := by decide +kernel
theorem dX0_extend_6 : decode cX0_extend 6 = .ok (.bipush 6, 2) := by decide +kernel
theorem dX0_extend_8 : decode cX0_extend 8 = .ok (.if_icmp .lt 8, 3) := by decide +kernel
theorem dX0_extend_11 : decode cX0_extend 11 = .ok (.aload_n 0, 1) := by decide +kernel
theorem dX0_extend_12 : decode cX0_extend 12 = .ok (.invokevirtual 70, 3) := by decide +kernel
theorem dX0_extend_15 : decode cX0_extend 15 = .ok (.ireturn, 1) := by decide +kernel
theorem dX0_extend_16 : decode cX0_extend 16 = .ok (.iconst 0, 1) := by decide +kernel
theorem dX0_extend_17 : decode cX0_extend 17 = .ok (.istore 4, 2) := by decide +kernel
theorem dX0_extend_19 : decode cX0_extend 19 = .ok (.iload 4, 2) := by decide +kernel
theorem dX0_extend_21 : decode cX0_extend 21 = .ok (.aload_n 0, 1) := by decide +kernel
theorem dX0_extend_22 : decode cX0_extend 22 = .ok (.invokevirtual 74, 3) := by decide +kernel
theorem dX0_extend_25 : decode cX0_extend 25 = .ok (.if_icmp .ge 47, 3) := by decide +kernel
theorem dX0_extend_28 : decode cX0_extend 28 = .ok (.iload_n 3, 1) := by decide +kernel
theorem dX0_extend_29 : decode cX0_extend 29 = .ok (.iload 4, 2) := by decide +kernel
theorem dX0_extend_31 : decode cX0_extend 31 = .ok (.ishr, 1) := by decide +kernel
theorem dX0_extend_32 : decode cX0_extend 32 = .ok (.iconst 1, 1) := by decide +kernel
theorem dX0_extend_33 : decode cX0_extend 33 = .ok (.iand, 1) := by decide +kernel
theorem dX0_extend_34 : decode cX0_extend 34 = .ok (.ifCond .ne 32, 3) := by decide +kernel
theorem dX0_extend_37 : decode cX0_extend 37 = .ok (.aload_n 0, 1) := by decide +kernel
theorem dX0_extend_38 : decode cX0_extend 38 = .ok (.iload_n 2, 1) := by decide +kernel
theorem dX0_extend_39 : decode cX0_extend 39 = .ok (.iload 4, 2) := by decide +kernel
theorem dX0_extend_41 : decode cX0_extend 41 = .ok (.invokevirtual 77, 3) := by decide +kernel
theorem dX0_extend_44 : decode cX0_extend 44 = .ok (.ifCond .eq 22, 3) := by decide +kernel
theorem dX0_extend_47 : decode cX0_extend 47 = .ok (.aload_n 0, 1) := by decide +kernel
theorem dX0_extend_48 : decode cX0_extend 48 = .ok (.iload_n 1, 1) := by decide +kernel
theorem dX0_extend_49 : decode cX0_extend 49 = .ok (.iload_n 2, 1) := by decide +kernel
theorem dX0_extend_50 : decode cX0_extend 50 = .ok (.iconst 1, 1) := by decide +kernel
theorem dX0_extend_51 : decode cX0_extend 51 = .ok (.iadd, 1) := by decide +kernel
theorem dX0_extend_52 : decode cX0_extend 52 = .ok (.iload_n 3, 1) := by decide +kernel
theorem dX0_extend_53 : decode cX0_extend 53 = .ok (.iconst 1, 1) := by decide +kernel
theorem dX0_extend_54 : decode cX0_extend 54 = .ok (.iload 4, 2) := by decide +kernel
theorem dX0_extend_56 : decode cX0_extend 56 = .ok (.ishl, 1) := by decide +kernel
theorem dX0_extend_57 : decode cX0_extend 57 = .ok (.ior, 1) := by decide +kernel
theorem dX0_extend_58 : decode cX0_extend 58 = .ok (.invokestatic 60, 3) := by decide +kernel
theorem dX0_extend_61 : decode cX0_extend 61 = .ok (.ifCond .eq 5, 3) := by decide +kernel
theorem dX0_extend_64 : decode cX0_extend 64 = .ok (.iconst 1, 1) := by decide +kernel
theorem dX0_extend_65 : decode cX0_extend 65 = .ok (.ireturn, 1) := by decide +kernel
theorem dX0_extend_66 : decode cX0_extend 66 = .ok (.iinc 4 1, 3) := by decide +kernel
theorem dX0_extend_69 : decode cX0_extend 69 = .ok (.goto (-50), 3) := by decide +kernel
theorem dX0_extend_72 : decode cX0_extend 72 = .ok (.iconst 0, 1) := by decide +kernel
theorem dX0_extend_73 : decode cX0_extend 73 = .ok (.ireturn, 1) := by decide +kernel
theorem k_bp6 : (Int8.ofInt (6)).toInt32 = 6 := by decide
theorem q0_10 : Cond.selects RX0 yX0_hasThings yX0_hasThings ∈ TT := tq0 10 rfl rfl
theorem q0_11 : Cond.selects RX0 yX0_stockSize yX0_stockSize ∈ TT := tq0 11 rfl rfl
theorem q0_12 : Cond.selects RX0 yX0_lay yX0_lay ∈ TT := tq0 12 rfl rfl
theorem q1_8 : Cond.initialized RX0 ∈ TT := tq1 8 rfl rfl
theorem q4_45 : Cond.methodLink RX0 60 yX0_extend ∈ TT := tq4 45 rfl rfl
theorem q4_46 : Cond.static yX0_extend ∈ TT := tq4 46 rfl rfl
theorem q4_47 : Cond.code yX0_extend cX0_extend 5 (some .boolean) ∈ TT := tq4 47 rfl rfl
theorem q4_48 : Cond.methodLink RX0 70 yX0_hasThings ∈ TT := tq4 48 rfl rfl
theorem q4_50 : Cond.instanceMethod yX0_hasThings ∈ TT := tq4 50 rfl rfl
theorem q4_51 : Cond.code yX0_hasThings cX0_hasThings 3 (some .boolean) ∈ TT := tq4 51 rfl rfl
theorem q4_53 : Cond.methodLink RX0 74 yX0_stockSize ∈ TT := tq4 53 rfl rfl
theorem q4_55 : Cond.instanceMethod yX0_stockSize ∈ TT := tq4 55 rfl rfl
theorem q4_56 : Cond.code yX0_stockSize cX0_stockSize 1 (some .int) ∈ TT := tq4 56 rfl rfl
theorem q4_57 : Cond.methodLink RX0 77 yX0_lay ∈ TT := tq4 57 rfl rfl
theorem q4_59 : Cond.instanceMethod yX0_lay ∈ TT := tq4 59 rfl rfl
theorem q4_60 : Cond.code yX0_lay cX0_lay 4 (some .boolean) ∈ TT := tq4 60 rfl rfl
theorem lk_RX0_70 : vlk RX0 70 yX0_hasThings cX0_hasThings 3 (some .boolean) 0 := ⟨List.forall_mem_cons.mpr ⟨q4_48, List.forall_mem_cons.mpr ⟨q4_50, List.forall_mem_cons.mpr ⟨q0_10, List.forall_mem_cons.mpr ⟨q1_8, fun _ h => absurd h List.not_mem_nil⟩⟩⟩⟩, q4_51, by decide, by decide, by decide +kernel⟩
theorem lk_RX0_74 : vlk RX0 74 yX0_stockSize cX0_stockSize 1 (some .int) 0 := ⟨List.forall_mem_cons.mpr ⟨q4_53, List.forall_mem_cons.mpr ⟨q4_55, List.forall_mem_cons.mpr ⟨q0_11, List.forall_mem_cons.mpr ⟨q1_8, fun _ h => absurd h List.not_mem_nil⟩⟩⟩⟩, q4_56, by decide, by decide, by decide +kernel⟩
theorem lk_RX0_77 : vlk RX0 77 yX0_lay cX0_lay 4 (some .boolean) 2 := ⟨List.forall_mem_cons.mpr ⟨q4_57, List.forall_mem_cons.mpr ⟨q4_59, List.forall_mem_cons.mpr ⟨q0_12, List.forall_mem_cons.mpr ⟨q1_8, fun _ h => absurd h List.not_mem_nil⟩⟩⟩⟩, q4_60, by decide, by decide, by decide +kernel⟩
theorem lk_RX0_60 : slk RX0 60 yX0_extend cX0_extend 5 (some .boolean) 4 := ⟨List.forall_mem_cons.mpr ⟨q4_45, List.forall_mem_cons.mpr ⟨q4_46, List.forall_mem_cons.mpr ⟨q1_8, fun _ h => absurd h List.not_mem_nil⟩⟩⟩, q4_47, by decide, by decide, by decide +kernel⟩
def F_X0_extend_b11 (s_a0_tale : S7) (s_a0_tale_forms : S1) (s_a0_tale_stock : S4) (s_a0_tale_words : S10) (x1 : Int32) (x2 : Int32) (x3 : Int32) (E : S0 → S4 → Int32 → Int32 → Int32 → Option (Int32 × S0 × S4)) (zs_a0 : S0) (zs_a0_row : S4) : Option (Int32 × S0 × S4) := (F_X0_hasThings zs_a0 zs_a0_row).bind fun q_1 => (zb q_1).bind fun z_2 => some (q_1, zs_a0, zs_a0_row)
def F_X0_extend_b66 (s_a0_tale : S7) (s_a0_tale_forms : S1) (s_a0_tale_stock : S4) (s_a0_tale_words : S10) (x1 : Int32) (x2 : Int32) (x3 : Int32) (E : S0 → S4 → Int32 → Int32 → Int32 → Option (Int32 × S0 × S4)) (K19 : Int32 → S0 → S4 → Option (Int32 × S0 × S4)) (v4 : Int32) (zs_a0 : S0) (zs_a0_row : S4) : Option (Int32 × S0 × S4) := nm (v4 + 1) fun v4_3 => K19 v4_3 zs_a0 zs_a0_row
def F_X0_extend_b19 (s_a0_tale : S7) (s_a0_tale_forms : S1) (s_a0_tale_stock : S4) (s_a0_tale_words : S10) (x1 : Int32) (x2 : Int32) (x3 : Int32) (E : S0 → S4 → Int32 → Int32 → Int32 → Option (Int32 × S0 × S4)) : Nat → Int32 → S0 → S4 → Option (Int32 × S0 × S4)
  | 0, _, _, _ => none
  | n + 1, v4, zs_a0, zs_a0_row => (F_X0_stockSize zs_a0 s_a0_tale s_a0_tale_stock).bind fun q_4 => (if q_4 ≤ v4 then some (0, zs_a0, zs_a0_row) else (if ((x3 >>> (v4 &&& 31)) &&& 1) = 0 then (F_X0_lay zs_a0 zs_a0_row s_a0_tale s_a0_tale_forms s_a0_tale_stock s_a0_tale_words x2 v4).bind fun q_5 => (if q_5.1 = 0 then F_X0_extend_b66 s_a0_tale s_a0_tale_forms s_a0_tale_stock s_a0_tale_words x1 x2 x3 E (F_X0_extend_b19 s_a0_tale s_a0_tale_forms s_a0_tale_stock s_a0_tale_words x1 x2 x3 E n) v4 q_5.2.1 q_5.2.2 else (E q_5.2.1 q_5.2.2 x1 (x2 + 1) (x3 ||| (1 <<< (v4 &&& 31)))).bind fun q_6 => (if q_6.1 = 0 then F_X0_extend_b66 s_a0_tale s_a0_tale_forms s_a0_tale_stock s_a0_tale_words x1 x2 x3 E (F_X0_extend_b19 s_a0_tale s_a0_tale_forms s_a0_tale_stock s_a0_tale_words x1 x2 x3 E n) v4 q_6.2.1 q_6.2.2 else some (1, q_6.2.1, q_6.2.2))) else F_X0_extend_b66 s_a0_tale s_a0_tale_forms s_a0_tale_stock s_a0_tale_words x1 x2 x3 E (F_X0_extend_b19 s_a0_tale s_a0_tale_forms s_a0_tale_stock s_a0_tale_words x1 x2 x3 E n) v4 zs_a0 zs_a0_row))
def F_X0_extend (s_a0 : S0) (s_a0_row : S4) (s_a0_tale : S7) (s_a0_tale_forms : S1) (s_a0_tale_stock : S4) (s_a0_tale_words : S10) (x1 : Int32) (x2 : Int32) (x3 : Int32) (E : S0 → S4 → Int32 → Int32 → Int32 → Option (Int32 × S0 × S4)) : Option (Int32 × S0 × S4) := (if x1 ≤ x2 then F_X0_extend_b11 s_a0_tale s_a0_tale_forms s_a0_tale_stock s_a0_tale_words x1 x2 x3 E s_a0 s_a0_row else (if x2 < 6 then nm 0 fun v4_7 => F_X0_extend_b19 s_a0_tale s_a0_tale_forms s_a0_tale_stock s_a0_tale_words x1 x2 x3 E fu v4_7 s_a0 s_a0_row else F_X0_extend_b11 s_a0_tale s_a0_tale_forms s_a0_tale_stock s_a0_tale_words x1 x2 x3 E s_a0 s_a0_row))
def w_X0_extend (a0 a0_row a0_tale a0_tale_forms a0_tale_stock a0_tale_words a0_tale_paper : Nat → Nat) (cB cI cJ cZ : ClassId) (s_a0 : S0) (s_a0_row : S4) (s_a0_tale : S7) (s_a0_tale_forms : S1) (s_a0_tale_stock : S4) (s_a0_tale_words : S10) (rf_a0_tale : Value) : va_W := List.flatten [(gX0 a0 cB cI cJ cZ (a0_row 0) rf_a0_tale s_a0), (gX4 a0_row cB cI cJ cZ s_a0_row), (gX7 a0_tale cB cI cJ cZ (a0_tale_words 0) (a0_tale_forms 0) (a0_tale_paper 0) (a0_tale_stock 0) s_a0_tale), (gX1 a0_tale_forms cB cI cJ cZ s_a0_tale_forms), (gX4 a0_tale_stock cB cI cJ cZ s_a0_tale_stock), (gX10 a0_tale_words cB cI cJ cZ s_a0_tale_words)]
abbrev rm_X0_extend : Room := { frames := 4, cells := 0, slots := 0, locals := 94 }
set_option maxHeartbeats 4000000 in
set_option maxRecDepth 100000 in
theorem c_X0_extend (l : Launch) (D : gG) (cB cI cJ cZ : ClassId) (a0 a0_row a0_tale a0_tale_forms a0_tale_stock a0_tale_words a0_tale_paper : Nat → Nat) (s_a0 : S0) (s_a0_row : S4) (s_a0_tale : S7) (s_a0_tale_forms : S1) (s_a0_tale_stock : S4) (s_a0_tale_words : S10) (x1 : Int32) (x2 : Int32) (x3 : Int32) (E : S0 → S4 → Int32 → Int32 → Int32 → Option (Int32 × S0 × S4)) (r : Int32 × S0 × S4) (hf : F_X0_extend s_a0 s_a0_row s_a0_tale s_a0_tale_forms s_a0_tale_stock s_a0_tale_words x1 x2 x3 E = some r) (R0 rmE : Room) (hfr : 4 ≤ R0.frames) (hlo : 94 ≤ R0.locals) (hE0 : rmE.cells = 0 ∧ rmE.slots = 0 ∧ rmE.frames + 1 ≤ R0.frames ∧ 8 + (5 + 11) + rmE.locals ≤ R0.locals) (hE : ∀ (s_a0 : S0) (s_a0_row : S4) (x1 : Int32) (x2 : Int32) (x3 : Int32) (r : Int32 × S0 × S4), E s_a0 s_a0_row x1 x2 x3 = some r → gM l D (tyL cB cI cJ cZ) yX0_extend cX0_extend 5 (some .boolean) rmE [.ref (a0 0), .int x1, .int x2, .int x3] (w_X0_extend a0 a0_row a0_tale a0_tale_forms a0_tale_stock a0_tale_words a0_tale_paper cB cI cJ cZ s_a0 s_a0_row s_a0_tale s_a0_tale_forms s_a0_tale_stock s_a0_tale_words (.ref (a0_tale 0))) (some (.int r.1)) (w_X0_extend a0 a0_row a0_tale a0_tale_forms a0_tale_stock a0_tale_words a0_tale_paper cB cI cJ cZ r.2.1 r.2.2 s_a0_tale s_a0_tale_forms s_a0_tale_stock s_a0_tale_words (.ref (a0_tale 0)))) : gM l D (tyL cB cI cJ cZ) yX0_extend cX0_extend 5 (some .boolean) R0 [.ref (a0 0), .int x1, .int x2, .int x3] (w_X0_extend a0 a0_row a0_tale a0_tale_forms a0_tale_stock a0_tale_words a0_tale_paper cB cI cJ cZ s_a0 s_a0_row s_a0_tale s_a0_tale_forms s_a0_tale_stock s_a0_tale_words (.ref (a0_tale 0))) (some (.int r.1)) (w_X0_extend a0 a0_row a0_tale a0_tale_forms a0_tale_stock a0_tale_words a0_tale_paper cB cI cJ cZ r.2.1 r.2.2 s_a0_tale s_a0_tale_forms s_a0_tale_stock s_a0_tale_words (.ref (a0_tale 0))) := by
  refine met_of (by decide) (Nat.le_of_ble_eq_true rfl) ?_
  intro p e s m args below meth c A cx hr hA
  show gW p l e R0 s m args below meth c D A 5 _ 0 0 _ [(0, .ref (a0 0)), (1, .int x1), (2, .int x2), (3, .int x3)] 0 []
  have h11 : ∀ (zs_a0 : S0) (zs_a0_row : S4), F_X0_extend_b11 s_a0_tale s_a0_tale_forms s_a0_tale_stock s_a0_tale_words x1 x2 x3 E zs_a0 zs_a0_row = some r → gW p l e R0 s m args below meth c D A 5 (MQ below (QM D (tyL cB cI cJ cZ) (some (.int r.1)) (w_X0_extend a0 a0_row a0_tale a0_tale_forms a0_tale_stock a0_tale_words a0_tale_paper cB cI cJ cZ s_a0 s_a0_row s_a0_tale s_a0_tale_forms s_a0_tale_stock s_a0_tale_words (.ref (a0_tale 0))) (w_X0_extend a0 a0_row a0_tale a0_tale_forms a0_tale_stock a0_tale_words a0_tale_paper cB cI cJ cZ r.2.1 r.2.2 s_a0_tale s_a0_tale_forms s_a0_tale_stock s_a0_tale_words (.ref (a0_tale 0))) s.heap.size) args s 0 0 A) 0 0 (w_X0_extend a0 a0_row a0_tale a0_tale_forms a0_tale_stock a0_tale_words a0_tale_paper cB cI cJ cZ zs_a0 zs_a0_row s_a0_tale s_a0_tale_forms s_a0_tale_stock s_a0_tale_words (.ref (a0_tale 0))) [(0, .ref (a0 0))] 11 [] := by
    intro zs_a0 zs_a0_row hf
    rw [F_X0_extend_b11] at hf
    refine g_aln cx 0 dX0_extend_11 rfl ?_
    refine ob hf (fun q_1 hq_1 hf => ?_)
    refine g_callVGiR cx lk_RX0_70 (c_X0_hasThings l D cB cI cJ cZ a0 a0_row a0_tale zs_a0 zs_a0_row q_1 hq_1) rfl [0, 1] rfl rfl (ci := 0) (q1 := 0) rfl rfl rfl (Nat.le_of_ble_eq_true rfl) ⟨rfl, rfl, Nat.le_trans (Nat.le_of_ble_eq_true rfl) hfr, Nat.le_trans (Nat.le_of_ble_eq_true rfl) hlo⟩ dX0_extend_12 ?_
    refine ob hf (fun z_2 hz hf => ?_)
    exact g_zret (ovf := fun (r : Int32 × S0 × S4) => (some (.int r.1))) (wf := fun (r : Int32 × S0 × S4) => (w_X0_extend a0 a0_row a0_tale a0_tale_forms a0_tale_stock a0_tale_words a0_tale_paper cB cI cJ cZ r.2.1 r.2.2 s_a0_tale s_a0_tale_forms s_a0_tale_stock s_a0_tale_words (.ref (a0_tale 0)))) cx hA hr (zb_some hz).2 hf rfl rfl dX0_extend_15
  have h66 : ∀ (K19 : Int32 → S0 → S4 → Option (Int32 × S0 × S4)), (∀ (v4 : Int32) (zs_a0 : S0) (zs_a0_row : S4), K19 v4 zs_a0 zs_a0_row = some r → gW p l e R0 s m args below meth c D A 5 (MQ below (QM D (tyL cB cI cJ cZ) (some (.int r.1)) (w_X0_extend a0 a0_row a0_tale a0_tale_forms a0_tale_stock a0_tale_words a0_tale_paper cB cI cJ cZ s_a0 s_a0_row s_a0_tale s_a0_tale_forms s_a0_tale_stock s_a0_tale_words (.ref (a0_tale 0))) (w_X0_extend a0 a0_row a0_tale a0_tale_forms a0_tale_stock a0_tale_words a0_tale_paper cB cI cJ cZ r.2.1 r.2.2 s_a0_tale s_a0_tale_forms s_a0_tale_stock s_a0_tale_words (.ref (a0_tale 0))) s.heap.size) args s 0 0 A) 0 0 (w_X0_extend a0 a0_row a0_tale a0_tale_forms a0_tale_stock a0_tale_words a0_tale_paper cB cI cJ cZ zs_a0 zs_a0_row s_a0_tale s_a0_tale_forms s_a0_tale_stock s_a0_tale_words (.ref (a0_tale 0))) [(0, .ref (a0 0)), (1, .int x1), (2, .int x2), (3, .int x3), (4, .int v4)] 19 []) → ∀ (v4 : Int32) (zs_a0 : S0) (zs_a0_row : S4), F_X0_extend_b66 s_a0_tale s_a0_tale_forms s_a0_tale_stock s_a0_tale_words x1 x2 x3 E K19 v4 zs_a0 zs_a0_row = some r → gW p l e R0 s m args below meth c D A 5 (MQ below (QM D (tyL cB cI cJ cZ) (some (.int r.1)) (w_X0_extend a0 a0_row a0_tale a0_tale_forms a0_tale_stock a0_tale_words a0_tale_paper cB cI cJ cZ s_a0 s_a0_row s_a0_tale s_a0_tale_forms s_a0_tale_stock s_a0_tale_words (.ref (a0_tale 0))) (w_X0_extend a0 a0_row a0_tale a0_tale_forms a0_tale_stock a0_tale_words a0_tale_paper cB cI cJ cZ r.2.1 r.2.2 s_a0_tale s_a0_tale_forms s_a0_tale_stock s_a0_tale_words (.ref (a0_tale 0))) s.heap.size) args s 0 0 A) 0 0 (w_X0_extend a0 a0_row a0_tale a0_tale_forms a0_tale_stock a0_tale_words a0_tale_paper cB cI cJ cZ zs_a0 zs_a0_row s_a0_tale s_a0_tale_forms s_a0_tale_stock s_a0_tale_words (.ref (a0_tale 0))) [(0, .ref (a0 0)), (1, .int x1), (2, .int x2), (3, .int x3), (4, .int v4)] 66 [] := by
    intro K19 kh19 v4 zs_a0 zs_a0_row hf
    rw [F_X0_extend_b66] at hf
    refine g_inc cx (L2 := fun v4_3 => [(4, .int v4_3), (0, .ref (a0 0)), (1, .int x1), (2, .int x2), (3, .int x3)]) 4 hf dX0_extend_66 rfl (k_inc1 _) (Nat.le_of_ble_eq_true rfl) (fun _ => rfl) (fun v4_3 hf => ?_)
    refine g_goto (tgt := 19) cx dX0_extend_69 rfl ?_
    refine g_sub [1, 2, 3, 4, 0] rfl ?_
    exact kh19 _ _ _ hf
  have h19 : ∀ (n : Nat) (v4 : Int32) (zs_a0 : S0) (zs_a0_row : S4), F_X0_extend_b19 s_a0_tale s_a0_tale_forms s_a0_tale_stock s_a0_tale_words x1 x2 x3 E n v4 zs_a0 zs_a0_row = some r → gW p l e R0 s m args below meth c D A 5 (MQ below (QM D (tyL cB cI cJ cZ) (some (.int r.1)) (w_X0_extend a0 a0_row a0_tale a0_tale_forms a0_tale_stock a0_tale_words a0_tale_paper cB cI cJ cZ s_a0 s_a0_row s_a0_tale s_a0_tale_forms s_a0_tale_stock s_a0_tale_words (.ref (a0_tale 0))) (w_X0_extend a0 a0_row a0_tale a0_tale_forms a0_tale_stock a0_tale_words a0_tale_paper cB cI cJ cZ r.2.1 r.2.2 s_a0_tale s_a0_tale_forms s_a0_tale_stock s_a0_tale_words (.ref (a0_tale 0))) s.heap.size) args s 0 0 A) 0 0 (w_X0_extend a0 a0_row a0_tale a0_tale_forms a0_tale_stock a0_tale_words a0_tale_paper cB cI cJ cZ zs_a0 zs_a0_row s_a0_tale s_a0_tale_forms s_a0_tale_stock s_a0_tale_words (.ref (a0_tale 0))) [(0, .ref (a0 0)), (1, .int x1), (2, .int x2), (3, .int x3), (4, .int v4)] 19 [] := by
    intro n
    induction n with
    | zero => intro v4 zs_a0 zs_a0_row hf; rw [F_X0_extend_b19] at hf; cases hf
    | succ n ih =>
      intro v4 zs_a0 zs_a0_row hf
      rw [F_X0_extend_b19] at hf
      refine g_il cx 4 dX0_extend_19 rfl ?_
      refine g_aln cx 0 dX0_extend_21 rfl ?_
      refine ob hf (fun q_4 hq_4 hf => ?_)
      refine g_callVGiR cx lk_RX0_74 (c_X0_stockSize l D cB cI cJ cZ a0 a0_tale a0_tale_stock a0_row a0_tale_words a0_tale_forms a0_tale_paper zs_a0 s_a0_tale s_a0_tale_stock q_4 hq_4) rfl [0, 2, 4] rfl rfl (ci := 0) (q1 := 0) rfl rfl rfl (Nat.le_of_ble_eq_true rfl) ⟨rfl, rfl, Nat.le_trans (Nat.le_of_ble_eq_true rfl) hfr, Nat.le_trans (Nat.le_of_ble_eq_true rfl) hlo⟩ dX0_extend_22 ?_
      refine g_ic_ge (tgt := 72) cx hf dX0_extend_25 rfl (fun hf => ?_) (fun hf => ?_)
      · refine g_ic cx dX0_extend_72 k_ic0 ?_
        exact g_zret (ovf := fun (r : Int32 × S0 × S4) => (some (.int r.1))) (wf := fun (r : Int32 × S0 × S4) => (w_X0_extend a0 a0_row a0_tale a0_tale_forms a0_tale_stock a0_tale_words a0_tale_paper cB cI cJ cZ r.2.1 r.2.2 s_a0_tale s_a0_tale_forms s_a0_tale_stock s_a0_tale_words (.ref (a0_tale 0)))) cx hA hr rfl hf rfl rfl dX0_extend_73
      · refine g_iln cx 3 dX0_extend_28 rfl ?_
        refine g_il cx 4 dX0_extend_29 rfl ?_
        refine g_ishr cx dX0_extend_31 ?_
        refine g_ic cx dX0_extend_32 k_ic1 ?_
        refine g_iand cx dX0_extend_33 ?_
        refine g_if_ne (tgt := 66) cx hf dX0_extend_34 rfl (fun hf => ?_) (fun hf => ?_)
        · exact h66 _ ih _ _ _ hf
        · refine g_aln cx 0 dX0_extend_37 rfl ?_
          refine g_iln cx 2 dX0_extend_38 rfl ?_
          refine g_il cx 4 dX0_extend_39 rfl ?_
          refine ob hf (fun q_5 hq_5 hf => ?_)
          refine g_callVGi (gs' := [(gX0 a0 cB cI cJ cZ (a0_row 0) (.ref (a0_tale 0)) q_5.2.1), (gX4 a0_row cB cI cJ cZ q_5.2.2), (gX7 a0_tale cB cI cJ cZ (a0_tale_words 0) (a0_tale_forms 0) (a0_tale_paper 0) (a0_tale_stock 0) s_a0_tale), (gX1 a0_tale_forms cB cI cJ cZ s_a0_tale_forms), (gX4 a0_tale_stock cB cI cJ cZ s_a0_tale_stock), (gX10 a0_tale_words cB cI cJ cZ s_a0_tale_words)]) cx lk_RX0_77 (c_X0_lay l D cB cI cJ cZ a0 a0_row a0_tale a0_tale_forms a0_tale_stock a0_tale_words a0_tale_paper zs_a0 zs_a0_row s_a0_tale s_a0_tale_forms s_a0_tale_stock s_a0_tale_words x2 v4 q_5 hq_5) rfl [0, 1, 2, 3, 4, 5] rfl rfl rfl rfl (ci := 0) (q1 := 0) rfl rfl rfl (Nat.le_of_ble_eq_true rfl) ⟨rfl, rfl, Nat.le_trans (Nat.le_of_ble_eq_true rfl) hfr, Nat.le_trans (Nat.le_of_ble_eq_true rfl) hlo⟩ dX0_extend_41 ?_
          refine g_if_eq (tgt := 66) cx hf dX0_extend_44 rfl (fun hf => ?_) (fun hf => ?_)
          · exact h66 _ ih _ _ _ hf
          · refine g_aln cx 0 dX0_extend_47 rfl ?_
            refine g_iln cx 1 dX0_extend_48 rfl ?_
            refine g_iln cx 2 dX0_extend_49 rfl ?_
            refine g_ic cx dX0_extend_50 k_ic1 ?_
            refine g_iadd cx dX0_extend_51 ?_
            refine g_iln cx 3 dX0_extend_52 rfl ?_
            refine g_ic cx dX0_extend_53 k_ic1 ?_
            refine g_il cx 4 dX0_extend_54 rfl ?_
            refine g_ishl cx dX0_extend_56 ?_
            refine g_ior cx dX0_extend_57 ?_
            refine ob hf (fun q_6 hq_6 hf => ?_)
            refine g_callSGi (gs' := [(gX0 a0 cB cI cJ cZ (a0_row 0) (.ref (a0_tale 0)) q_6.2.1), (gX4 a0_row cB cI cJ cZ q_6.2.2), (gX7 a0_tale cB cI cJ cZ (a0_tale_words 0) (a0_tale_forms 0) (a0_tale_paper 0) (a0_tale_stock 0) s_a0_tale), (gX1 a0_tale_forms cB cI cJ cZ s_a0_tale_forms), (gX4 a0_tale_stock cB cI cJ cZ s_a0_tale_stock), (gX10 a0_tale_words cB cI cJ cZ s_a0_tale_words)]) cx lk_RX0_60 (hE q_5.2.1 q_5.2.2 x1 (x2 + 1) (x3 ||| (1 <<< (v4 &&& 31))) q_6 hq_6) rfl [0, 1, 2, 3, 4, 5] rfl rfl rfl rfl rfl (Nat.le_of_ble_eq_true rfl) hE0 dX0_extend_58 ?_
            refine g_if_eq (tgt := 66) cx hf dX0_extend_61 rfl (fun hf => ?_) (fun hf => ?_)
            · exact h66 _ ih _ _ _ hf
            · refine g_ic cx dX0_extend_64 k_ic1 ?_
              exact g_zret (ovf := fun (r : Int32 × S0 × S4) => (some (.int r.1))) (wf := fun (r : Int32 × S0 × S4) => (w_X0_extend a0 a0_row a0_tale a0_tale_forms a0_tale_stock a0_tale_words a0_tale_paper cB cI cJ cZ r.2.1 r.2.2 s_a0_tale s_a0_tale_forms s_a0_tale_stock s_a0_tale_words (.ref (a0_tale 0)))) cx hA hr rfl hf rfl rfl dX0_extend_65
  rw [F_X0_extend] at hf
  refine g_iln cx 2 dX0_extend_0 rfl ?_
  refine g_iln cx 1 dX0_extend_1 rfl ?_
  refine g_ic_ge (tgt := 11) cx hf dX0_extend_2 rfl (fun hf => ?_) (fun hf => ?_)
  · refine g_sub [0] rfl ?_
    exact h11 _ _ hf
  · refine g_iln cx 2 dX0_extend_5 rfl ?_
    refine g_bp cx dX0_extend_6 k_bp6 ?_
    refine g_ic_lt (tgt := 16) cx hf dX0_extend_8 rfl (fun hf => ?_) (fun hf => ?_)
    · refine g_ic cx dX0_extend_16 k_ic0 ?_
      refine g_is cx (L2 := fun v4_7 => [(4, .int v4_7), (0, .ref (a0 0)), (1, .int x1), (2, .int x2), (3, .int x3)]) hf dX0_extend_17 (Nat.le_of_ble_eq_true rfl) (fun _ => rfl) (fun v4_7 hf => ?_)
      refine g_sub [1, 2, 3, 4, 0] rfl ?_
      exact h19 fu _ _ _ hf
    · refine g_sub [0] rfl ?_
      exact h11 _ _ hf
def F_ext (s_a0_tale : S7) (s_a0_tale_forms : S1) (s_a0_tale_stock : S4) (s_a0_tale_words : S10) : Nat → S0 → S4 → Int32 → Int32 → Int32 → Option (Int32 × S0 × S4)
  | 0, _, _, _, _, _ => none
  | k + 1, s_a0, s_a0_row, x1, x2, x3 => F_X0_extend s_a0 s_a0_row s_a0_tale s_a0_tale_forms s_a0_tale_stock s_a0_tale_words x1 x2 x3 (F_ext s_a0_tale s_a0_tale_forms s_a0_tale_stock s_a0_tale_words k)
def rm_ext (k : Nat) : Room := { frames := 4 + k, cells := 0, slots := 0, locals := 94 + 24 * k }
theorem c_ext (l : Launch) (D : gG) (cB cI cJ cZ : ClassId) (a0 a0_row a0_tale a0_tale_forms a0_tale_stock a0_tale_words a0_tale_paper : Nat → Nat) (s_a0_tale : S7) (s_a0_tale_forms : S1) (s_a0_tale_stock : S4) (s_a0_tale_words : S10) : ∀ (k : Nat) (s_a0 : S0) (s_a0_row : S4) (x1 : Int32) (x2 : Int32) (x3 : Int32) (r : Int32 × S0 × S4), F_ext s_a0_tale s_a0_tale_forms s_a0_tale_stock s_a0_tale_words k s_a0 s_a0_row x1 x2 x3 = some r → gM l D (tyL cB cI cJ cZ) yX0_extend cX0_extend 5 (some .boolean) (rm_ext k) [.ref (a0 0), .int x1, .int x2, .int x3] (w_X0_extend a0 a0_row a0_tale a0_tale_forms a0_tale_stock a0_tale_words a0_tale_paper cB cI cJ cZ s_a0 s_a0_row s_a0_tale s_a0_tale_forms s_a0_tale_stock s_a0_tale_words (.ref (a0_tale 0))) (some (.int r.1)) (w_X0_extend a0 a0_row a0_tale a0_tale_forms a0_tale_stock a0_tale_words a0_tale_paper cB cI cJ cZ r.2.1 r.2.2 s_a0_tale s_a0_tale_forms s_a0_tale_stock s_a0_tale_words (.ref (a0_tale 0))) := by
  intro k
  induction k with
  | zero => intro s_a0 s_a0_row x1 x2 x3 r hf; rw [F_ext] at hf; cases hf
  | succ k ih =>
    intro s_a0 s_a0_row x1 x2 x3 r hf
    rw [F_ext] at hf
    exact c_X0_extend l D cB cI cJ cZ a0 a0_row a0_tale a0_tale_forms a0_tale_stock a0_tale_words a0_tale_paper s_a0 s_a0_row s_a0_tale s_a0_tale_forms s_a0_tale_stock s_a0_tale_words x1 x2 x3 (F_ext s_a0_tale s_a0_tale_forms s_a0_tale_stock s_a0_tale_words k) r hf (rm_ext (k + 1)) (rm_ext k) (Nat.le_add_right _ _) (Nat.le_add_right _ _) ⟨rfl, rfl, by simp only [rm_ext]; omega, by simp only [rm_ext]; omega⟩ ih
def F_X0_extT (s_a0 : S0) (s_a0_row : S4) (s_a0_tale : S7) (s_a0_tale_forms : S1) (s_a0_tale_stock : S4) (s_a0_tale_words : S10) (x1 : Int32) (x2 : Int32) (x3 : Int32) : Option (Int32 × S0 × S4) := F_ext s_a0_tale s_a0_tale_forms s_a0_tale_stock s_a0_tale_words 8 s_a0 s_a0_row x1 x2 x3
abbrev rm_X0_extT : Room := { frames := 12, cells := 0, slots := 0, locals := 286 }
theorem c_X0_extT (l : Launch) (D : gG) (cB cI cJ cZ : ClassId) (a0 a0_row a0_tale a0_tale_forms a0_tale_stock a0_tale_words a0_tale_paper : Nat → Nat) (s_a0 : S0) (s_a0_row : S4) (s_a0_tale : S7) (s_a0_tale_forms : S1) (s_a0_tale_stock : S4) (s_a0_tale_words : S10) (x1 : Int32) (x2 : Int32) (x3 : Int32) (r : Int32 × S0 × S4) (hf : F_X0_extT s_a0 s_a0_row s_a0_tale s_a0_tale_forms s_a0_tale_stock s_a0_tale_words x1 x2 x3 = some r) : gM l D (tyL cB cI cJ cZ) yX0_extend cX0_extend 5 (some .boolean) rm_X0_extT [.ref (a0 0), .int x1, .int x2, .int x3] (w_X0_extend a0 a0_row a0_tale a0_tale_forms a0_tale_stock a0_tale_words a0_tale_paper cB cI cJ cZ s_a0 s_a0_row s_a0_tale s_a0_tale_forms s_a0_tale_stock s_a0_tale_words (.ref (a0_tale 0))) (some (.int r.1)) (w_X0_extend a0 a0_row a0_tale a0_tale_forms a0_tale_stock a0_tale_words a0_tale_paper cB cI cJ cZ r.2.1 r.2.2 s_a0_tale s_a0_tale_forms s_a0_tale_stock s_a0_tale_words (.ref (a0_tale 0))) := c_ext l D cB cI cJ cZ a0 a0_row a0_tale a0_tale_forms a0_tale_stock a0_tale_words a0_tale_paper s_a0_tale s_a0_tale_forms s_a0_tale_stock s_a0_tale_words 8 s_a0 s_a0_row x1 x2 x3 r hf
theorem dX0_find_0 : decode cX0_find 0 = .ok (.aload_n 0, 1) := by decide +kernel
theorem dX0_find_1 : decode cX0_find 1 = .ok (.aload_n 1, 1) := by decide +kernel
theorem dX0_find_2 : decode cX0_find 2 = .ok (.putfield 24, 3) := by decide +kernel
theorem dX0_find_5 : decode cX0_find 5 = .ok (.aload_n 0, 1) := by decide +kernel
theorem dX0_find_6 : decode cX0_find 6 = .ok (.iload_n 2, 1) := by decide +kernel
theorem dX0_find_7 : decode cX0_find 7 = .ok (.putfield 28, 3) := by decide +kernel
theorem dX0_find_10 : decode cX0_find 10 = .ok (.aload_n 0, 1) := by decide +kernel
theorem dX0_find_11 : decode cX0_find 11 = .ok (.iload_n 3, 1) := by decide +kernel
theorem dX0_find_12 : decode cX0_find 12 = .ok (.putfield 32, 3) := by decide +kernel
theorem dX0_find_15 : decode cX0_find 15 = .ok (.aload_n 0, 1) := by decide +kernel
theorem dX0_find_16 : decode cX0_find 16 = .ok (.iload 4, 2) := by decide +kernel
theorem dX0_find_18 : decode cX0_find 18 = .ok (.putfield 35, 3) := by decide +kernel
theorem dX0_find_21 : decode cX0_find 21 = .ok (.iconst 1, 1) := by decide +kernel
theorem dX0_find_22 : decode cX0_find 22 = .ok (.istore 5, 2) := by decide +kernel
theorem dX0_find_24 : decode cX0_find 24 = .ok (.iload 5, 2) := by decide +kernel
theorem dX0_find_26 : decode cX0_find 26 = .ok (.aload_n 1, 1) := by decide +kernel
theorem dX0_find_27 : decode cX0_find 27 = .ok (.getfield 38, 3) := by decide +kernel
theorem dX0_find_30 : decode cX0_find 30 = .ok (.invokevirtual 43, 3) := by decide +kernel
theorem dX0_find_33 : decode cX0_find 33 = .ok (.if_icmp .gt 43, 3) := by decide +kernel
theorem dX0_find_36 : decode cX0_find 36 = .ok (.aload_n 0, 1) := by decide +kernel
theorem dX0_find_37 : decode cX0_find 37 = .ok (.getfield 14, 3) := by decide +kernel
theorem dX0_find_40 : decode cX0_find 40 = .ok (.invokevirtual 47, 3) := by decide +kernel
theorem dX0_find_43 : decode cX0_find 43 = .ok (.aload_n 1, 1) := by decide +kernel
theorem dX0_find_44 : decode cX0_find 44 = .ok (.getfield 50, 3) := by decide +kernel
theorem dX0_find_47 : decode cX0_find 47 = .ok (.iload_n 2, 1) := by decide +kernel
theorem dX0_find_48 : decode cX0_find 48 = .ok (.iload 5, 2) := by decide +kernel
theorem dX0_find_50 : decode cX0_find 50 = .ok (.invokevirtual 54, 3) := by decide +kernel
theorem dX0_find_53 : decode cX0_find 53 = .ok (.ifCond .eq 17, 3) := by decide +kernel
theorem dX0_find_56 : decode cX0_find 56 = .ok (.aload_n 0, 1) := by decide +kernel
theorem dX0_find_57 : decode cX0_find 57 = .ok (.iload 5, 2) := by decide +kernel
theorem dX0_find_59 : decode cX0_find 59 = .ok (.iconst 0, 1) := by decide +kernel
theorem dX0_find_60 : decode cX0_find 60 = .ok (.iconst 0, 1) := by decide +kernel
theorem dX0_find_61 : decode cX0_find 61 = .ok (.invokestatic 60, 3) := by decide +kernel
theorem dX0_find_64 : decode cX0_find 64 = .ok (.ifCond .eq 6, 3) := by decide +kernel
theorem dX0_find_67 : decode cX0_find 67 = .ok (.iload 5, 2) := by decide +kernel
theorem dX0_find_69 : decode cX0_find 69 = .ok (.ireturn, 1) := by decide +kernel
theorem dX0_find_70 : decode cX0_find 70 = .ok (.iinc 5 1, 3) := by decide +kernel
theorem dX0_find_73 : decode cX0_find 73 = .ok (.goto (-49), 3) := by decide +kernel
theorem dX0_find_76 : decode cX0_find 76 = .ok (.bipush (-9), 2) := by decide +kernel
theorem dX0_find_78 : decode cX0_find 78 = .ok (.ireturn, 1) := by decide +kernel
theorem q4_43 : Cond.methodLink RX0 47 yX4_wipe ∈ TT := tq4 43 rfl rfl
theorem q4_44 : Cond.methodLink RX0 54 yX1_pairs ∈ TT := tq4 44 rfl rfl
theorem lk_RX0_47 : vlk RX0 47 yX4_wipe cX4_wipe 1 none 0 := ⟨List.forall_mem_cons.mpr ⟨q4_43, List.forall_mem_cons.mpr ⟨q2_69, List.forall_mem_cons.mpr ⟨q2_70, List.forall_mem_cons.mpr ⟨q1_4, fun _ h => absurd h List.not_mem_nil⟩⟩⟩⟩, q2_71, by decide, by decide, by decide +kernel⟩
theorem lk_RX0_54 : vlk RX0 54 yX1_pairs cX1_pairs 4 (some .boolean) 2 := ⟨List.forall_mem_cons.mpr ⟨q4_44, List.forall_mem_cons.mpr ⟨q3_230, List.forall_mem_cons.mpr ⟨q3_231, List.forall_mem_cons.mpr ⟨q1_11, fun _ h => absurd h List.not_mem_nil⟩⟩⟩⟩, q3_232, by decide, by decide, by decide +kernel⟩
theorem fp_RX0_24 {p : Program} {l : Launch} {e : Env} {R : Room} {s : State} {m : MethodId} {args : Array Value} {below : List Frame} {meth : Method} {c : Code} {D : gG} {tys : List (ClassId × FieldType)} {A : Nat → Prop} {nL : Nat} {Q : State → Prop} {cells slots : Nat} {cc : ByteArray} {ws : va_W} {L : List (Nat × Value)} {pc : Nat} {stk : List Value} (cx : gX p s m args meth c cc nL RX0 D tys A) {a : Nat} {fs : List Value} {x : Nat} (q0 : Nat) (he : ws[q0]? = some (a, .inr (0, fs))) (hl : 2 < fs.length) {ws' : va_W} (hw : ws.set q0 (a, .inr (0, fs.set 2 (.ref x))) = ws') (hd : decode cc pc = .ok (.putfield 24, 3)) (kk : gW p l e R s m args below meth c D A nL Q cells slots ws' L (pc + 3) stk) : gW p l e R s m args below meth c D A nL Q cells slots ws L pc (.ref x :: .ref a :: stk) :=
  g_put cx (C := RX0) (T := TX0) (N := 6) (ty0 := tyX0) (ty := (.object "RhymeLaw$Tale")) inT0 tyX0_ok nmX0 rfl 2 (Nat.le_of_ble_eq_true rfl) q1_137 rfl rfl rfl rfl rfl q0 he hl hw hd kk
theorem fp_RX0_28 {p : Program} {l : Launch} {e : Env} {R : Room} {s : State} {m : MethodId} {args : Array Value} {below : List Frame} {meth : Method} {c : Code} {D : gG} {tys : List (ClassId × FieldType)} {A : Nat → Prop} {nL : Nat} {Q : State → Prop} {cells slots : Nat} {cc : ByteArray} {ws : va_W} {L : List (Nat × Value)} {pc : Nat} {stk : List Value} (cx : gX p s m args meth c cc nL RX0 D tys A) {a : Nat} {fs : List Value} {x : Int32} (q0 : Nat) (he : ws[q0]? = some (a, .inr (0, fs))) (hl : 3 < fs.length) {ws' : va_W} (hw : ws.set q0 (a, .inr (0, fs.set 3 (.int x))) = ws') (hd : decode cc pc = .ok (.putfield 28, 3)) (kk : gW p l e R s m args below meth c D A nL Q cells slots ws' L (pc + 3) stk) : gW p l e R s m args below meth c D A nL Q cells slots ws L pc (.int x :: .ref a :: stk) :=
  g_put cx (C := RX0) (T := TX0) (N := 6) (ty0 := tyX0) (ty := .int) inT0 tyX0_ok nmX0 rfl 3 (Nat.le_of_ble_eq_true rfl) q1_138 rfl rfl rfl rfl rfl q0 he hl hw hd kk
theorem fp_RX0_32 {p : Program} {l : Launch} {e : Env} {R : Room} {s : State} {m : MethodId} {args : Array Value} {below : List Frame} {meth : Method} {c : Code} {D : gG} {tys : List (ClassId × FieldType)} {A : Nat → Prop} {nL : Nat} {Q : State → Prop} {cells slots : Nat} {cc : ByteArray} {ws : va_W} {L : List (Nat × Value)} {pc : Nat} {stk : List Value} (cx : gX p s m args meth c cc nL RX0 D tys A) {a : Nat} {fs : List Value} {x : Int32} (q0 : Nat) (he : ws[q0]? = some (a, .inr (0, fs))) (hl : 4 < fs.length) {ws' : va_W} (hw : ws.set q0 (a, .inr (0, fs.set 4 (.int x))) = ws') (hd : decode cc pc = .ok (.putfield 32, 3)) (kk : gW p l e R s m args below meth c D A nL Q cells slots ws' L (pc + 3) stk) : gW p l e R s m args below meth c D A nL Q cells slots ws L pc (.int x :: .ref a :: stk) :=
  g_put cx (C := RX0) (T := TX0) (N := 6) (ty0 := tyX0) (ty := .int) inT0 tyX0_ok nmX0 rfl 4 (Nat.le_of_ble_eq_true rfl) q1_139 rfl rfl rfl rfl rfl q0 he hl hw hd kk
theorem fp_RX0_35 {p : Program} {l : Launch} {e : Env} {R : Room} {s : State} {m : MethodId} {args : Array Value} {below : List Frame} {meth : Method} {c : Code} {D : gG} {tys : List (ClassId × FieldType)} {A : Nat → Prop} {nL : Nat} {Q : State → Prop} {cells slots : Nat} {cc : ByteArray} {ws : va_W} {L : List (Nat × Value)} {pc : Nat} {stk : List Value} (cx : gX p s m args meth c cc nL RX0 D tys A) {a : Nat} {fs : List Value} {x : Int32} (q0 : Nat) (he : ws[q0]? = some (a, .inr (0, fs))) (hl : 5 < fs.length) {ws' : va_W} (hw : ws.set q0 (a, .inr (0, fs.set 5 (.int x))) = ws') (hd : decode cc pc = .ok (.putfield 35, 3)) (kk : gW p l e R s m args below meth c D A nL Q cells slots ws' L (pc + 3) stk) : gW p l e R s m args below meth c D A nL Q cells slots ws L pc (.int x :: .ref a :: stk) :=
  g_put cx (C := RX0) (T := TX0) (N := 6) (ty0 := tyX0) (ty := .int) inT0 tyX0_ok nmX0 rfl 5 (Nat.le_of_ble_eq_true rfl) q1_140 rfl rfl rfl rfl rfl q0 he hl hw hd kk
def F_X0_find_b70 (s_a1 : S7) (s_a1_forms : S1) (s_a1_stock : S4) (s_a1_words : S10) (x2 : Int32) (x3 : Int32) (x4 : Int32) (K24 : Int32 → S0 → S4 → Option (Int32 × S0 × S4)) (v5 : Int32) (zs_o : S0) (zs_o_row : S4) : Option (Int32 × S0 × S4) := nm (v5 + 1) fun v5_1 => K24 v5_1 zs_o zs_o_row
def F_X0_find_b24 (s_a1 : S7) (s_a1_forms : S1) (s_a1_stock : S4) (s_a1_words : S10) (x2 : Int32) (x3 : Int32) (x4 : Int32) : Nat → Int32 → S0 → S4 → Option (Int32 × S0 × S4)
  | 0, _, _, _ => none
  | n + 1, v5, zs_o, zs_o_row => (F_X4_size s_a1_stock).bind fun q_2 => (if q_2 < v5 then some ((-9), zs_o, zs_o_row) else (F_X4_wipe zs_o_row).bind fun q_3 => (F_X1_pairs s_a1_forms x2 v5).bind fun q_4 => (if q_4 = 0 then F_X0_find_b70 s_a1 s_a1_forms s_a1_stock s_a1_words x2 x3 x4 (F_X0_find_b24 s_a1 s_a1_forms s_a1_stock s_a1_words x2 x3 x4 n) v5 zs_o q_3 else (F_X0_extT zs_o q_3 s_a1 s_a1_forms s_a1_stock s_a1_words v5 0 0).bind fun q_5 => (if q_5.1 = 0 then F_X0_find_b70 s_a1 s_a1_forms s_a1_stock s_a1_words x2 x3 x4 (F_X0_find_b24 s_a1 s_a1_forms s_a1_stock s_a1_words x2 x3 x4 n) v5 q_5.2.1 q_5.2.2 else some (v5, q_5.2.1, q_5.2.2))))
def F_X0_find (s_a1 : S7) (s_o : S0) (s_a1_forms : S1) (s_a1_stock : S4) (s_a1_words : S10) (s_o_row : S4) (x2 : Int32) (x3 : Int32) (x4 : Int32) : Option (Int32 × S0 × S4) := nm (u0_form s_o x2) fun s_o_6 => nm (u0_dialect s_o_6 x3) fun s_o_7 => nm (u0_things s_o_7 x4) fun s_o_8 => nm 1 fun v5_9 => F_X0_find_b24 s_a1 s_a1_forms s_a1_stock s_a1_words x2 x3 x4 fu v5_9 s_o_8 s_o_row
def w_X0_find (a1 o a1_forms a1_stock a1_words o_row a1_paper o_tale : Nat → Nat) (cB cI cJ cZ : ClassId) (s_a1 : S7) (s_o : S0) (s_a1_forms : S1) (s_a1_stock : S4) (s_a1_words : S10) (s_o_row : S4) (rf_o_tale : Value) : va_W := List.flatten [(gX7 a1 cB cI cJ cZ (a1_words 0) (a1_forms 0) (a1_paper 0) (a1_stock 0) s_a1), (gX0 o cB cI cJ cZ (o_row 0) rf_o_tale s_o), (gX1 a1_forms cB cI cJ cZ s_a1_forms), (gX4 a1_stock cB cI cJ cZ s_a1_stock), (gX10 a1_words cB cI cJ cZ s_a1_words), (gX4 o_row cB cI cJ cZ s_o_row)]
abbrev rm_X0_find : Room := { frames := 13, cells := 0, slots := 0, locals := 310 }
set_option maxHeartbeats 4000000 in
set_option maxRecDepth 100000 in
theorem c_X0_find (l : Launch) (D : gG) (cB cI cJ cZ : ClassId) (a1 o a1_forms a1_stock a1_words o_row a1_paper o_tale : Nat → Nat) (s_a1 : S7) (s_o : S0) (s_a1_forms : S1) (s_a1_stock : S4) (s_a1_words : S10) (s_o_row : S4) (x2 : Int32) (x3 : Int32) (x4 : Int32) (rv_o_tale : Value) (r : Int32 × S0 × S4) (hf : F_X0_find s_a1 s_o s_a1_forms s_a1_stock s_a1_words s_o_row x2 x3 x4 = some r) : gM l D (tyL cB cI cJ cZ) yX0_find cX0_find 6 (some .int) rm_X0_find [.ref (o 0), .ref (a1 0), .int x2, .int x3, .int x4] (w_X0_find a1 o a1_forms a1_stock a1_words o_row a1_paper o_tale cB cI cJ cZ s_a1 s_o s_a1_forms s_a1_stock s_a1_words s_o_row rv_o_tale) (some (.int r.1)) (w_X0_find a1 o a1_forms a1_stock a1_words o_row a1_paper o_tale cB cI cJ cZ s_a1 r.2.1 s_a1_forms s_a1_stock s_a1_words r.2.2 (.ref (a1 0))) := by
  refine met_of (by decide) (Nat.le_of_ble_eq_true rfl) ?_
  intro p e s m args below meth c A cx hr hA
  show gW p l e rm_X0_find s m args below meth c D A 6 _ 0 0 _ [(0, .ref (o 0)), (1, .ref (a1 0)), (2, .int x2), (3, .int x3), (4, .int x4)] 0 []
  have h70 : ∀ (K24 : Int32 → S0 → S4 → Option (Int32 × S0 × S4)), (∀ (v5 : Int32) (zs_o : S0) (zs_o_row : S4), K24 v5 zs_o zs_o_row = some r → gW p l e rm_X0_find s m args below meth c D A 6 (MQ below (QM D (tyL cB cI cJ cZ) (some (.int r.1)) (w_X0_find a1 o a1_forms a1_stock a1_words o_row a1_paper o_tale cB cI cJ cZ s_a1 s_o s_a1_forms s_a1_stock s_a1_words s_o_row rv_o_tale) (w_X0_find a1 o a1_forms a1_stock a1_words o_row a1_paper o_tale cB cI cJ cZ s_a1 r.2.1 s_a1_forms s_a1_stock s_a1_words r.2.2 (.ref (a1 0))) s.heap.size) args s 0 0 A) 0 0 (w_X0_find a1 o a1_forms a1_stock a1_words o_row a1_paper o_tale cB cI cJ cZ s_a1 zs_o s_a1_forms s_a1_stock s_a1_words zs_o_row (.ref (a1 0))) [(0, .ref (o 0)), (1, .ref (a1 0)), (2, .int x2), (5, .int v5)] 24 []) → ∀ (v5 : Int32) (zs_o : S0) (zs_o_row : S4), F_X0_find_b70 s_a1 s_a1_forms s_a1_stock s_a1_words x2 x3 x4 K24 v5 zs_o zs_o_row = some r → gW p l e rm_X0_find s m args below meth c D A 6 (MQ below (QM D (tyL cB cI cJ cZ) (some (.int r.1)) (w_X0_find a1 o a1_forms a1_stock a1_words o_row a1_paper o_tale cB cI cJ cZ s_a1 s_o s_a1_forms s_a1_stock s_a1_words s_o_row rv_o_tale) (w_X0_find a1 o a1_forms a1_stock a1_words o_row a1_paper o_tale cB cI cJ cZ s_a1 r.2.1 s_a1_forms s_a1_stock s_a1_words r.2.2 (.ref (a1 0))) s.heap.size) args s 0 0 A) 0 0 (w_X0_find a1 o a1_forms a1_stock a1_words o_row a1_paper o_tale cB cI cJ cZ s_a1 zs_o s_a1_forms s_a1_stock s_a1_words zs_o_row (.ref (a1 0))) [(0, .ref (o 0)), (1, .ref (a1 0)), (2, .int x2), (5, .int v5)] 70 [] := by
    intro K24 kh24 v5 zs_o zs_o_row hf
    rw [F_X0_find_b70] at hf
    refine g_inc cx (L2 := fun v5_1 => [(5, .int v5_1), (0, .ref (o 0)), (1, .ref (a1 0)), (2, .int x2)]) 3 hf dX0_find_70 rfl (k_inc1 _) (Nat.le_of_ble_eq_true rfl) (fun _ => rfl) (fun v5_1 hf => ?_)
    refine g_goto (tgt := 24) cx dX0_find_73 rfl ?_
    refine g_sub [1, 2, 3, 0] rfl ?_
    exact kh24 _ _ _ hf
  have h24 : ∀ (n : Nat) (v5 : Int32) (zs_o : S0) (zs_o_row : S4), F_X0_find_b24 s_a1 s_a1_forms s_a1_stock s_a1_words x2 x3 x4 n v5 zs_o zs_o_row = some r → gW p l e rm_X0_find s m args below meth c D A 6 (MQ below (QM D (tyL cB cI cJ cZ) (some (.int r.1)) (w_X0_find a1 o a1_forms a1_stock a1_words o_row a1_paper o_tale cB cI cJ cZ s_a1 s_o s_a1_forms s_a1_stock s_a1_words s_o_row rv_o_tale) (w_X0_find a1 o a1_forms a1_stock a1_words o_row a1_paper o_tale cB cI cJ cZ s_a1 r.2.1 s_a1_forms s_a1_stock s_a1_words r.2.2 (.ref (a1 0))) s.heap.size) args s 0 0 A) 0 0 (w_X0_find a1 o a1_forms a1_stock a1_words o_row a1_paper o_tale cB cI cJ cZ s_a1 zs_o s_a1_forms s_a1_stock s_a1_words zs_o_row (.ref (a1 0))) [(0, .ref (o 0)), (1, .ref (a1 0)), (2, .int x2), (5, .int v5)] 24 [] := by
    intro n
    induction n with
    | zero => intro v5 zs_o zs_o_row hf; rw [F_X0_find_b24] at hf; cases hf
    | succ n ih =>
      intro v5 zs_o zs_o_row hf
      rw [F_X0_find_b24] at hf
      refine g_il cx 3 dX0_find_24 rfl ?_
      refine g_aln cx 1 dX0_find_26 rfl ?_
      refine fg_RX0_38 cx 0 rfl rfl dX0_find_27 ?_
      refine ob hf (fun q_2 hq_2 hf => ?_)
      refine g_callVGiR cx lk_RX0_43 (c_X4_size l D cB cI cJ cZ a1_stock s_a1_stock q_2 hq_2) rfl [3] rfl rfl (ci := 4) (q1 := 0) rfl rfl rfl (Nat.le_of_ble_eq_true rfl) ⟨rfl, rfl, Nat.le_of_ble_eq_true rfl, Nat.le_of_ble_eq_true rfl⟩ dX0_find_30 ?_
      refine g_ic_gt (tgt := 76) cx hf dX0_find_33 rfl (fun hf => ?_) (fun hf => ?_)
      · refine g_bp cx dX0_find_76 k_bpm9 ?_
        exact g_iret (ovf := fun (r : Int32 × S0 × S4) => (some (.int r.1))) (wf := fun (r : Int32 × S0 × S4) => (w_X0_find a1 o a1_forms a1_stock a1_words o_row a1_paper o_tale cB cI cJ cZ s_a1 r.2.1 s_a1_forms s_a1_stock s_a1_words r.2.2 (.ref (a1 0)))) cx hA hr hf rfl rfl dX0_find_78
      · refine g_aln cx 0 dX0_find_36 rfl ?_
        refine fg_RX0_14 cx 2 rfl rfl dX0_find_37 ?_
        refine ob hf (fun q_3 hq_3 hf => ?_)
        refine g_callVGv (gs' := [(gX7 a1 cB cI cJ cZ (a1_words 0) (a1_forms 0) (a1_paper 0) (a1_stock 0) s_a1), (gX0 o cB cI cJ cZ (o_row 0) (.ref (a1 0)) zs_o), (gX1 a1_forms cB cI cJ cZ s_a1_forms), (gX4 a1_stock cB cI cJ cZ s_a1_stock), (gX10 a1_words cB cI cJ cZ s_a1_words), (gX4 o_row cB cI cJ cZ q_3)]) cx lk_RX0_47 (c_X4_wipe l D cB cI cJ cZ o_row zs_o_row q_3 hq_3) rfl [5] rfl rfl rfl rfl (ci := 4) (q1 := 0) rfl rfl rfl (Nat.le_of_ble_eq_true rfl) ⟨rfl, rfl, Nat.le_of_ble_eq_true rfl, Nat.le_of_ble_eq_true rfl⟩ dX0_find_40 ?_
        refine g_aln cx 1 dX0_find_43 rfl ?_
        refine fg_RX0_50 cx 0 rfl rfl dX0_find_44 ?_
        refine g_iln cx 2 dX0_find_47 rfl ?_
        refine g_il cx 3 dX0_find_48 rfl ?_
        refine ob hf (fun q_4 hq_4 hf => ?_)
        refine g_callVGiR cx lk_RX0_54 (c_X1_pairs l D cB cI cJ cZ a1_forms s_a1_forms x2 v5 q_4 hq_4) rfl [2] rfl rfl (ci := 1) (q1 := 0) rfl rfl rfl (Nat.le_of_ble_eq_true rfl) ⟨rfl, rfl, Nat.le_of_ble_eq_true rfl, Nat.le_of_ble_eq_true rfl⟩ dX0_find_50 ?_
        refine g_if_eq (tgt := 70) cx hf dX0_find_53 rfl (fun hf => ?_) (fun hf => ?_)
        · exact h70 _ ih _ _ _ hf
        · refine g_aln cx 0 dX0_find_56 rfl ?_
          refine g_il cx 3 dX0_find_57 rfl ?_
          refine g_ic cx dX0_find_59 k_ic0 ?_
          refine g_ic cx dX0_find_60 k_ic0 ?_
          refine ob hf (fun q_5 hq_5 hf => ?_)
          refine g_callSGi (gs' := [(gX7 a1 cB cI cJ cZ (a1_words 0) (a1_forms 0) (a1_paper 0) (a1_stock 0) s_a1), (gX0 o cB cI cJ cZ (o_row 0) (.ref (a1 0)) q_5.2.1), (gX1 a1_forms cB cI cJ cZ s_a1_forms), (gX4 a1_stock cB cI cJ cZ s_a1_stock), (gX10 a1_words cB cI cJ cZ s_a1_words), (gX4 o_row cB cI cJ cZ q_5.2.2)]) cx lk_RX0_60 (c_X0_extT l D cB cI cJ cZ o o_row a1 a1_forms a1_stock a1_words a1_paper zs_o q_3 s_a1 s_a1_forms s_a1_stock s_a1_words v5 0 0 q_5 hq_5) rfl [1, 5, 0, 2, 3, 4] rfl rfl rfl rfl rfl (Nat.le_of_ble_eq_true rfl) ⟨rfl, rfl, Nat.le_of_ble_eq_true rfl, Nat.le_of_ble_eq_true rfl⟩ dX0_find_61 ?_
          refine g_if_eq (tgt := 70) cx hf dX0_find_64 rfl (fun hf => ?_) (fun hf => ?_)
          · exact h70 _ ih _ _ _ hf
          · refine g_il cx 3 dX0_find_67 rfl ?_
            exact g_iret (ovf := fun (r : Int32 × S0 × S4) => (some (.int r.1))) (wf := fun (r : Int32 × S0 × S4) => (w_X0_find a1 o a1_forms a1_stock a1_words o_row a1_paper o_tale cB cI cJ cZ s_a1 r.2.1 s_a1_forms s_a1_stock s_a1_words r.2.2 (.ref (a1 0)))) cx hA hr hf rfl rfl dX0_find_69
  rw [F_X0_find] at hf
  refine g_aln cx 0 dX0_find_0 rfl ?_
  refine g_aln cx 1 dX0_find_1 rfl ?_
  refine fp_RX0_24 cx 2 rfl (Nat.le_of_ble_eq_true rfl) (ws' := (w_X0_find a1 o a1_forms a1_stock a1_words o_row a1_paper o_tale cB cI cJ cZ s_a1 s_o s_a1_forms s_a1_stock s_a1_words s_o_row (.ref (a1 0)))) rfl dX0_find_2 ?_
  refine g_aln cx 0 dX0_find_5 rfl ?_
  refine g_iln cx 2 dX0_find_6 rfl ?_
  refine fp_RX0_28 cx 2 rfl (Nat.le_of_ble_eq_true rfl) (ws' := (w_X0_find a1 o a1_forms a1_stock a1_words o_row a1_paper o_tale cB cI cJ cZ s_a1 (u0_form s_o x2) s_a1_forms s_a1_stock s_a1_words s_o_row (.ref (a1 0)))) rfl dX0_find_7 ?_
  refine g_nm (w := fun s_o_6 => (w_X0_find a1 o a1_forms a1_stock a1_words o_row a1_paper o_tale cB cI cJ cZ s_a1 s_o_6 s_a1_forms s_a1_stock s_a1_words s_o_row (.ref (a1 0)))) hf (fun s_o_6 hf => ?_)
  refine g_aln cx 0 dX0_find_10 rfl ?_
  refine g_iln cx 3 dX0_find_11 rfl ?_
  refine fp_RX0_32 cx 2 rfl (Nat.le_of_ble_eq_true rfl) (ws' := (w_X0_find a1 o a1_forms a1_stock a1_words o_row a1_paper o_tale cB cI cJ cZ s_a1 (u0_dialect s_o_6 x3) s_a1_forms s_a1_stock s_a1_words s_o_row (.ref (a1 0)))) rfl dX0_find_12 ?_
  refine g_nm (w := fun s_o_7 => (w_X0_find a1 o a1_forms a1_stock a1_words o_row a1_paper o_tale cB cI cJ cZ s_a1 s_o_7 s_a1_forms s_a1_stock s_a1_words s_o_row (.ref (a1 0)))) hf (fun s_o_7 hf => ?_)
  refine g_aln cx 0 dX0_find_15 rfl ?_
  refine g_il cx 4 dX0_find_16 rfl ?_
  refine fp_RX0_35 cx 2 rfl (Nat.le_of_ble_eq_true rfl) (ws' := (w_X0_find a1 o a1_forms a1_stock a1_words o_row a1_paper o_tale cB cI cJ cZ s_a1 (u0_things s_o_7 x4) s_a1_forms s_a1_stock s_a1_words s_o_row (.ref (a1 0)))) rfl dX0_find_18 ?_
  refine g_nm (w := fun s_o_8 => (w_X0_find a1 o a1_forms a1_stock a1_words o_row a1_paper o_tale cB cI cJ cZ s_a1 s_o_8 s_a1_forms s_a1_stock s_a1_words s_o_row (.ref (a1 0)))) hf (fun s_o_8 hf => ?_)
  refine g_ic cx dX0_find_21 k_ic1 ?_
  refine g_is cx (L2 := fun v5_9 => [(5, .int v5_9), (0, .ref (o 0)), (1, .ref (a1 0)), (2, .int x2), (3, .int x3), (4, .int x4)]) hf dX0_find_22 (Nat.le_of_ble_eq_true rfl) (fun _ => rfl) (fun v5_9 hf => ?_)
  refine g_sub [1, 2, 3, 0] rfl ?_
  exact h24 fu _ _ _ hf
