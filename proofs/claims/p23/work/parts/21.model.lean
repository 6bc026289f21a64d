theorem dX12_readsWord_0 : decode cX12_readsWord 0 = .ok (.bipush 64, 2) := by decide +kernel
theorem dX12_readsWord_2 : decode cX12_readsWord 2 = .ok (.iconst 4, 1) := by decide +kernel
theorem dX12_readsWord_3 : decode cX12_readsWord 3 = .ok (.aload_n 0, 1) := by decide +kernel
theorem dX12_readsWord_4 : decode cX12_readsWord 4 = .ok (.getfield 125, 3) := by decide +kernel
theorem dX12_readsWord_7 : decode cX12_readsWord 7 = .ok (.imul, 1) := by decide +kernel
theorem dX12_readsWord_8 : decode cX12_readsWord 8 = .ok (.iadd, 1) := by decide +kernel
theorem dX12_readsWord_9 : decode cX12_readsWord 9 = .ok (.istore_n 1, 1) := by decide +kernel
theorem dX12_readsWord_10 : decode cX12_readsWord 10 = .ok (.aload_n 0, 1) := by decide +kernel
theorem dX12_readsWord_11 : decode cX12_readsWord 11 = .ok (.getfield 13, 3) := by decide +kernel
theorem dX12_readsWord_14 : decode cX12_readsWord 14 = .ok (.iload_n 1, 1) := by decide +kernel
theorem dX12_readsWord_15 : decode cX12_readsWord 15 = .ok (.aload_n 0, 1) := by decide +kernel
theorem dX12_readsWord_16 : decode cX12_readsWord 16 = .ok (.iconst 0, 1) := by decide +kernel
theorem dX12_readsWord_17 : decode cX12_readsWord 17 = .ok (.bipush 25, 2) := by decide +kernel
theorem dX12_readsWord_19 : decode cX12_readsWord 19 = .ok (.invokevirtual 128, 3) := by decide +kernel
theorem dX12_readsWord_22 : decode cX12_readsWord 22 = .ok (.iastore, 1) := by decide +kernel
theorem dX12_readsWord_23 : decode cX12_readsWord 23 = .ok (.aload_n 0, 1) := by decide +kernel
theorem dX12_readsWord_24 : decode cX12_readsWord 24 = .ok (.getfield 13, 3) := by decide +kernel
theorem dX12_readsWord_27 : decode cX12_readsWord 27 = .ok (.iload_n 1, 1) := by decide +kernel
theorem dX12_readsWord_28 : decode cX12_readsWord 28 = .ok (.iconst 1, 1) := by decide +kernel
theorem dX12_readsWord_29 : decode cX12_readsWord 29 = .ok (.iadd, 1) := by decide +kernel
theorem dX12_readsWord_30 : decode cX12_readsWord 30 = .ok (.aload_n 0, 1) := by decide +kernel
theorem dX12_readsWord_31 : decode cX12_readsWord 31 = .ok (.iconst 0, 1) := by decide +kernel
theorem dX12_readsWord_32 : decode cX12_readsWord 32 = .ok (.bipush 25, 2) := by decide +kernel
theorem dX12_readsWord_34 : decode cX12_readsWord 34 = .ok (.invokevirtual 128, 3) := by decide +kernel
theorem dX12_readsWord_37 : decode cX12_readsWord 37 = .ok (.iastore, 1) := by decide +kernel
theorem dX12_readsWord_38 : decode cX12_readsWord 38 = .ok (.aload_n 0, 1) := by decide +kernel
theorem dX12_readsWord_39 : decode cX12_readsWord 39 = .ok (.getfield 13, 3) := by decide +kernel
theorem dX12_readsWord_42 : decode cX12_readsWord 42 = .ok (.iload_n 1, 1) := by decide +kernel
theorem dX12_readsWord_43 : decode cX12_readsWord 43 = .ok (.iconst 2, 1) := by decide +kernel
theorem dX12_readsWord_44 : decode cX12_readsWord 44 = .ok (.iadd, 1) := by decide +kernel
theorem dX12_readsWord_45 : decode cX12_readsWord 45 = .ok (.aload_n 0, 1) := by decide +kernel
theorem dX12_readsWord_46 : decode cX12_readsWord 46 = .ok (.iconst 0, 1) := by decide +kernel
theorem dX12_readsWord_47 : decode cX12_readsWord 47 = .ok (.bipush 9, 2) := by decide +kernel
theorem dX12_readsWord_49 : decode cX12_readsWord 49 = .ok (.invokevirtual 128, 3) := by decide +kernel
theorem dX12_readsWord_52 : decode cX12_readsWord 52 = .ok (.iastore, 1) := by decide +kernel
theorem dX12_readsWord_53 : decode cX12_readsWord 53 = .ok (.aload_n 0, 1) := by decide +kernel
theorem dX12_readsWord_54 : decode cX12_readsWord 54 = .ok (.getfield 13, 3) := by decide +kernel
theorem dX12_readsWord_57 : decode cX12_readsWord 57 = .ok (.iload_n 1, 1) := by decide +kernel
theorem dX12_readsWord_58 : decode cX12_readsWord 58 = .ok (.iconst 3, 1) := by decide +kernel
theorem dX12_readsWord_59 : decode cX12_readsWord 59 = .ok (.iadd, 1) := by decide +kernel
theorem dX12_readsWord_60 : decode cX12_readsWord 60 = .ok (.aload_n 0, 1) := by decide +kernel
theorem dX12_readsWord_61 : decode cX12_readsWord 61 = .ok (.iconst 1, 1) := by decide +kernel
theorem dX12_readsWord_62 : decode cX12_readsWord 62 = .ok (.iconst 4, 1) := by decide +kernel
theorem dX12_readsWord_63 : decode cX12_readsWord 63 = .ok (.invokevirtual 128, 3) := by decide +kernel
theorem dX12_readsWord_66 : decode cX12_readsWord 66 = .ok (.iastore, 1) := by decide +kernel
theorem dX12_readsWord_67 : decode cX12_readsWord 67 = .ok (.aload_n 0, 1) := by decide +kernel
theorem dX12_readsWord_68 : decode cX12_readsWord 68 = .ok (.dup, 1) := by decide +kernel
theorem dX12_readsWord_69 : decode cX12_readsWord 69 = .ok (.getfield 125, 3) := by decide +kernel
theorem dX12_readsWord_72 : decode cX12_readsWord 72 = .ok (.iconst 1, 1) := by decide +kernel
theorem dX12_readsWord_73 : decode cX12_readsWord 73 = .ok (.iadd, 1) := by decide +kernel
theorem dX12_readsWord_74 : decode cX12_readsWord 74 = .ok (.putfield 125, 3) := by decide +kernel
theorem dX12_readsWord_77 : decode cX12_readsWord 77 = .ok (.return_, 1) := by decide +kernel
theorem k_bp64 : (Int8.ofInt (64)).toInt32 = 64 := by decide
theorem q0_35 : Cond.selects RX12 yX12_number yX12_number ∈ TT := tq0 35 rfl rfl
theorem q4_232 : Cond.fieldLink RX12 13 "RhymeLawModel" "word" "[I" ∈ TT := tq4 232 rfl rfl
theorem q4_239 : Cond.fieldLink RX12 125 "RhymeLawModel" "draftWords" "I" ∈ TT := tq4 239 rfl rfl
theorem q5_147 : Cond.methodLink RX12 128 yX12_number ∈ TT := tq5 147 rfl rfl
theorem q5_149 : Cond.instanceMethod yX12_number ∈ TT := tq5 149 rfl rfl
theorem q5_150 : Cond.code yX12_number cX12_number 4 (some .int) ∈ TT := tq5 150 rfl rfl
theorem fg_RX12_125 {p : Program} {l : Launch} {e : Env} {R : Room} {s : State} {m : MethodId} {args : Array Value} {below : List Frame} {meth : Method} {c : Code} {D : gG} {tys : List (ClassId × FieldType)} {A : Nat → Prop} {nL : Nat} {Q : State → Prop} {cells slots : Nat} {cc : ByteArray} {ws : va_W} {L : List (Nat × Value)} {pc : Nat} {stk : List Value} (cx : gX p s m args meth c cc nL RX12 D tys A) {a : Nat} {fs : List Value} {v : Value} (q0 : Nat) (he : ws[q0]? = some (a, .inr (10, fs))) (hv : fs[16]? = some v) (hd : decode cc pc = .ok (.getfield 125, 3)) (kk : gW p l e R s m args below meth c D A nL Q cells slots ws L (pc + 3) (v :: stk)) : gW p l e R s m args below meth c D A nL Q cells slots ws L pc (.ref a :: stk) :=
  g_get cx (C := RX12) (T := TX12) (N := 38) inT12 rfl 16 (Nat.le_of_ble_eq_true rfl) q4_239 rfl q0 he hv hd kk
theorem mg_draftWords {p : Program} {l : Launch} {e : Env} {R : Room} {s : State} {m : MethodId} {args : Array Value} {below : List Frame} {meth : Method} {c : Code} {D : gG} {A : Nat → Prop} {nL : Nat} {Q : State → Prop} {cells slots : Nat} {cc : ByteArray} {L : List (Nat × Value)} {pc : Nat} {stk : List Value} {o : Nat → Nat} {cB cI cJ cZ : ClassId} {z : SM} (cx : gX p s m args meth c cc nL RX12 D (tyL cB cI cJ cZ) A) (hd : decode cc pc = .ok (.getfield 125, 3)) (kk : gW p l e R s m args below meth c D A nL Q cells slots (wX12 o cB cI cJ cZ z) L (pc + 3) (.int (mI z 16) :: stk)) : gW p l e R s m args below meth c D A nL Q cells slots (wX12 o cB cI cJ cZ z) L pc (.ref (o 0) :: stk) :=
  fg_RX12_125 cx 0 rfl rfl hd kk
theorem fg_RX12_13 {p : Program} {l : Launch} {e : Env} {R : Room} {s : State} {m : MethodId} {args : Array Value} {below : List Frame} {meth : Method} {c : Code} {D : gG} {tys : List (ClassId × FieldType)} {A : Nat → Prop} {nL : Nat} {Q : State → Prop} {cells slots : Nat} {cc : ByteArray} {ws : va_W} {L : List (Nat × Value)} {pc : Nat} {stk : List Value} (cx : gX p s m args meth c cc nL RX12 D tys A) {a : Nat} {fs : List Value} {v : Value} (q0 : Nat) (he : ws[q0]? = some (a, .inr (10, fs))) (hv : fs[9]? = some v) (hd : decode cc pc = .ok (.getfield 13, 3)) (kk : gW p l e R s m args below meth c D A nL Q cells slots ws L (pc + 3) (v :: stk)) : gW p l e R s m args below meth c D A nL Q cells slots ws L pc (.ref a :: stk) :=
  g_get cx (C := RX12) (T := TX12) (N := 38) inT12 rfl 9 (Nat.le_of_ble_eq_true rfl) q4_232 rfl q0 he hv hd kk
theorem mg_word {p : Program} {l : Launch} {e : Env} {R : Room} {s : State} {m : MethodId} {args : Array Value} {below : List Frame} {meth : Method} {c : Code} {D : gG} {A : Nat → Prop} {nL : Nat} {Q : State → Prop} {cells slots : Nat} {cc : ByteArray} {L : List (Nat × Value)} {pc : Nat} {stk : List Value} {o : Nat → Nat} {cB cI cJ cZ : ClassId} {z : SM} (cx : gX p s m args meth c cc nL RX12 D (tyL cB cI cJ cZ) A) (hd : decode cc pc = .ok (.getfield 13, 3)) (kk : gW p l e R s m args below meth c D A nL Q cells slots (wX12 o cB cI cJ cZ z) L (pc + 3) (.ref (o 2) :: stk)) : gW p l e R s m args below meth c D A nL Q cells slots (wX12 o cB cI cJ cZ z) L pc (.ref (o 0) :: stk) :=
  fg_RX12_13 cx 0 rfl rfl hd kk
theorem lk_RX12_128 : vlk RX12 128 yX12_number cX12_number 4 (some .int) 2 := ⟨List.forall_mem_cons.mpr ⟨q5_147, List.forall_mem_cons.mpr ⟨q5_149, List.forall_mem_cons.mpr ⟨q0_35, List.forall_mem_cons.mpr ⟨q1_12, fun _ h => absurd h List.not_mem_nil⟩⟩⟩⟩, q5_150, by decide, by decide, by decide +kernel⟩
theorem fp_RX12_125 {p : Program} {l : Launch} {e : Env} {R : Room} {s : State} {m : MethodId} {args : Array Value} {below : List Frame} {meth : Method} {c : Code} {D : gG} {tys : List (ClassId × FieldType)} {A : Nat → Prop} {nL : Nat} {Q : State → Prop} {cells slots : Nat} {cc : ByteArray} {ws : va_W} {L : List (Nat × Value)} {pc : Nat} {stk : List Value} (cx : gX p s m args meth c cc nL RX12 D tys A) {a : Nat} {fs : List Value} {x : Int32} (q0 : Nat) (he : ws[q0]? = some (a, .inr (10, fs))) (hl : 16 < fs.length) {ws' : va_W} (hw : ws.set q0 (a, .inr (10, fs.set 16 (.int x))) = ws') (hd : decode cc pc = .ok (.putfield 125, 3)) (kk : gW p l e R s m args below meth c D A nL Q cells slots ws' L (pc + 3) stk) : gW p l e R s m args below meth c D A nL Q cells slots ws L pc (.int x :: .ref a :: stk) :=
  g_put cx (C := RX12) (T := TX12) (N := 38) (ty0 := tyX12) (ty := .int) inT12 tyX12_ok nmX12 rfl 16 (Nat.le_of_ble_eq_true rfl) q4_239 rfl rfl rfl rfl rfl q0 he hl hw hd kk
theorem mp_draftWords {p : Program} {l : Launch} {e : Env} {R : Room} {s : State} {m : MethodId} {args : Array Value} {below : List Frame} {meth : Method} {c : Code} {D : gG} {A : Nat → Prop} {nL : Nat} {Q : State → Prop} {cells slots : Nat} {cc : ByteArray} {L : List (Nat × Value)} {pc : Nat} {stk : List Value} {β : Type} {r : β} {o : Nat → Nat} {cB cI cJ cZ : ClassId} {z : SM} (cx : gX p s m args meth c cc nL RX12 D (tyL cB cI cJ cZ) A) {x : Int32} {kf : SM → Option β} (hf : nm (mIs z 16 x) kf = some r) (hd : decode cc pc = .ok (.putfield 125, 3)) (kk : ∀ y : SM, kf y = some r → gW p l e R s m args below meth c D A nL Q cells slots (wX12 o cB cI cJ cZ y) L (pc + 3) stk) : gW p l e R s m args below meth c D A nL Q cells slots (wX12 o cB cI cJ cZ z) L pc (.int x :: .ref (o 0) :: stk) :=
  fp_RX12_125 cx 0 rfl (Nat.le_of_ble_eq_true rfl) (ws' := wX12 o cB cI cJ cZ (mIs z 16 x)) rfl hd (kk _ hf)
theorem ms_word {p : Program} {l : Launch} {e : Env} {R : Room} {s : State} {m : MethodId} {args : Array Value} {below : List Frame} {meth : Method} {c : Code} {D : gG} {A : Nat → Prop} {nL : Nat} {Q : State → Prop} {cells slots : Nat} {cc : ByteArray} {L : List (Nat × Value)} {pc : Nat} {stk : List Value} {β : Type} {r : β} {o : Nat → Nat} {cB cI cJ cZ : ClassId} {z : SM} (cx : gX p s m args meth c cc nL RX12 D (tyL cB cI cJ cZ) A) {i : Int32} {x : Int32} {kf : SM → Option β} (hf : ((aset 128 (mA z 9) i x).bind fun f => nm (mAs z 9 f) kf) = some r) (hd : decode cc pc = .ok (.iastore, 1)) (kk : ∀ y : SM, kf y = some r → gW p l e R s m args below meth c D A nL Q cells slots (wX12 o cB cI cJ cZ y) L (pc + 1) stk) : gW p l e R s m args below meth c D A nL Q cells slots (wX12 o cB cI cJ cZ z) L pc (.int x :: .int i :: .ref (o 2) :: stk) :=
  g_iast cx 2 1 (ws' := fun f => wX12 o cB cI cJ cZ (mAs z 9 f)) hf rfl rfl (fun _ => rfl) hd (fun _ hf => kk _ hf)
def F_X12_readsWord (s_o : SM) : Option (SM) := nm (64 + (4 * (mI s_o 16))) fun v1_1 => (F_X12_number s_o 0 25).bind fun q_2 => (aset 128 (mA q_2.2 9) v1_1 q_2.1).bind fun f_3 => nm (mAs q_2.2 9 f_3) fun s_o_4 => (F_X12_number s_o_4 0 25).bind fun q_5 => (aset 128 (mA q_5.2 9) (v1_1 + 1) q_5.1).bind fun f_6 => nm (mAs q_5.2 9 f_6) fun s_o_7 => (F_X12_number s_o_7 0 9).bind fun q_8 => (aset 128 (mA q_8.2 9) (v1_1 + 2) q_8.1).bind fun f_9 => nm (mAs q_8.2 9 f_9) fun s_o_10 => (F_X12_number s_o_10 1 4).bind fun q_11 => (aset 128 (mA q_11.2 9) (v1_1 + 3) q_11.1).bind fun f_12 => nm (mAs q_11.2 9 f_12) fun s_o_13 => nm (mIs s_o_13 16 ((mI s_o_13 16) + 1)) fun s_o_14 => some (s_o_14)

abbrev rm_X12_readsWord : Room := { frames := 3, cells := 0, slots := 0, locals := 66 }
set_option maxHeartbeats 4000000 in
set_option maxRecDepth 100000 in
theorem c_X12_readsWord (l : Launch) (D : gG) (cB cI cJ cZ : ClassId) (o : Nat → Nat) (s_o : SM) (r : SM) (hf : F_X12_readsWord s_o = some r) : gM l D (tyL cB cI cJ cZ) yX12_readsWord cX12_readsWord 2 none rm_X12_readsWord [.ref (o 0)] (wX12 o cB cI cJ cZ s_o) none (wX12 o cB cI cJ cZ r) := by
  refine met_of (by decide) (Nat.le_of_ble_eq_true rfl) ?_
  intro p e s m args below meth c A cx hr hA
  show gW p l e rm_X12_readsWord s m args below meth c D A 2 _ 0 0 _ [(0, .ref (o 0))] 0 []
  rw [F_X12_readsWord] at hf
  refine g_bp cx dX12_readsWord_0 k_bp64 ?_
  refine g_ic cx dX12_readsWord_2 k_ic4 ?_
  refine g_aln cx 0 dX12_readsWord_3 rfl ?_
  refine mg_draftWords cx dX12_readsWord_4 ?_
  refine g_imul cx dX12_readsWord_7 ?_
  refine g_iadd cx dX12_readsWord_8 ?_
  refine g_isn cx (L2 := fun v1_1 => [(1, .int v1_1), (0, .ref (o 0))]) hf dX12_readsWord_9 (Nat.le_of_ble_eq_true rfl) (fun _ => rfl) (fun v1_1 hf => ?_)
  refine g_aln cx 1 dX12_readsWord_10 rfl ?_
  refine mg_word cx dX12_readsWord_11 ?_
  refine g_iln cx 0 dX12_readsWord_14 rfl ?_
  refine g_aln cx 1 dX12_readsWord_15 rfl ?_
  refine g_ic cx dX12_readsWord_16 k_ic0 ?_
  refine g_bp cx dX12_readsWord_17 k_bp25 ?_
  refine ob hf (fun q_2 hq_2 hf => ?_)
  refine g_callVFi cx lk_RX12_128 (c_X12_number l D cB cI cJ cZ o s_o 0 25 q_2 hq_2) rfl (ci := 10) (q1 := 0) rfl rfl rfl (Nat.le_of_ble_eq_true rfl) ⟨rfl, rfl, Nat.le_of_ble_eq_true rfl, Nat.le_of_ble_eq_true rfl⟩ dX12_readsWord_19 ?_
  refine ms_word cx hf dX12_readsWord_22 (fun s_o_4 hf => ?_)
  refine g_aln cx 1 dX12_readsWord_23 rfl ?_
  refine mg_word cx dX12_readsWord_24 ?_
  refine g_iln cx 0 dX12_readsWord_27 rfl ?_
  refine g_ic cx dX12_readsWord_28 k_ic1 ?_
  refine g_iadd cx dX12_readsWord_29 ?_
  refine g_aln cx 1 dX12_readsWord_30 rfl ?_
  refine g_ic cx dX12_readsWord_31 k_ic0 ?_
  refine g_bp cx dX12_readsWord_32 k_bp25 ?_
  refine ob hf (fun q_5 hq_5 hf => ?_)
  refine g_callVFi cx lk_RX12_128 (c_X12_number l D cB cI cJ cZ o s_o_4 0 25 q_5 hq_5) rfl (ci := 10) (q1 := 0) rfl rfl rfl (Nat.le_of_ble_eq_true rfl) ⟨rfl, rfl, Nat.le_of_ble_eq_true rfl, Nat.le_of_ble_eq_true rfl⟩ dX12_readsWord_34 ?_
  refine ms_word cx hf dX12_readsWord_37 (fun s_o_7 hf => ?_)
  refine g_aln cx 1 dX12_readsWord_38 rfl ?_
  refine mg_word cx dX12_readsWord_39 ?_
  refine g_iln cx 0 dX12_readsWord_42 rfl ?_
  refine g_ic cx dX12_readsWord_43 k_ic2 ?_
  refine g_iadd cx dX12_readsWord_44 ?_
  refine g_aln cx 1 dX12_readsWord_45 rfl ?_
  refine g_ic cx dX12_readsWord_46 k_ic0 ?_
  refine g_bp cx dX12_readsWord_47 k_bp9 ?_
  refine ob hf (fun q_8 hq_8 hf => ?_)
  refine g_callVFi cx lk_RX12_128 (c_X12_number l D cB cI cJ cZ o s_o_7 0 9 q_8 hq_8) rfl (ci := 10) (q1 := 0) rfl rfl rfl (Nat.le_of_ble_eq_true rfl) ⟨rfl, rfl, Nat.le_of_ble_eq_true rfl, Nat.le_of_ble_eq_true rfl⟩ dX12_readsWord_49 ?_
  refine ms_word cx hf dX12_readsWord_52 (fun s_o_10 hf => ?_)
  refine g_aln cx 1 dX12_readsWord_53 rfl ?_
  refine mg_word cx dX12_readsWord_54 ?_
  refine g_iln cx 0 dX12_readsWord_57 rfl ?_
  refine g_ic cx dX12_readsWord_58 k_ic3 ?_
  refine g_iadd cx dX12_readsWord_59 ?_
  refine g_aln cx 1 dX12_readsWord_60 rfl ?_
  refine g_ic cx dX12_readsWord_61 k_ic1 ?_
  refine g_ic cx dX12_readsWord_62 k_ic4 ?_
  refine ob hf (fun q_11 hq_11 hf => ?_)
  refine g_callVFi cx lk_RX12_128 (c_X12_number l D cB cI cJ cZ o s_o_10 1 4 q_11 hq_11) rfl (ci := 10) (q1 := 0) rfl rfl rfl (Nat.le_of_ble_eq_true rfl) ⟨rfl, rfl, Nat.le_of_ble_eq_true rfl, Nat.le_of_ble_eq_true rfl⟩ dX12_readsWord_63 ?_
  refine ms_word cx hf dX12_readsWord_66 (fun s_o_13 hf => ?_)
  refine g_aln cx 1 dX12_readsWord_67 rfl ?_
  refine g_dup cx dX12_readsWord_68 rfl ?_
  refine mg_draftWords cx dX12_readsWord_69 ?_
  refine g_ic cx dX12_readsWord_72 k_ic1 ?_
  refine g_iadd cx dX12_readsWord_73 ?_
  refine mp_draftWords cx hf dX12_readsWord_74 (fun s_o_14 hf => ?_)
  exact g_vret (ovf := fun (r : SM) => none) (wf := fun (r : SM) => (wX12 o cB cI cJ cZ r)) cx hA hr hf rfl rfl dX12_readsWord_77
theorem dX12_readsForm_0 : decode cX12_readsForm 0 = .ok (.aload_n 0, 1) := by decide +kernel
theorem dX12_readsForm_1 : decode cX12_readsForm 1 = .ok (.aload_n 0, 1) := by decide +kernel
theorem dX12_readsForm_2 : decode cX12_readsForm 2 = .ok (.bipush 8, 2) := by decide +kernel
theorem dX12_readsForm_4 : decode cX12_readsForm 4 = .ok (.invokevirtual 132, 3) := by decide +kernel
theorem dX12_readsForm_7 : decode cX12_readsForm 7 = .ok (.invokevirtual 114, 3) := by decide +kernel
theorem dX12_readsForm_10 : decode cX12_readsForm 10 = .ok (.bipush 18, 2) := by decide +kernel
theorem dX12_readsForm_12 : decode cX12_readsForm 12 = .ok (.bipush 9, 2) := by decide +kernel
theorem dX12_readsForm_14 : decode cX12_readsForm 14 = .ok (.aload_n 0, 1) := by decide +kernel
theorem dX12_readsForm_15 : decode cX12_readsForm 15 = .ok (.getfield 136, 3) := by decide +kernel
theorem dX12_readsForm_18 : decode cX12_readsForm 18 = .ok (.imul, 1) := by decide +kernel
theorem dX12_readsForm_19 : decode cX12_readsForm 19 = .ok (.iadd, 1) := by decide +kernel
theorem dX12_readsForm_20 : decode cX12_readsForm 20 = .ok (.istore_n 1, 1) := by decide +kernel
theorem dX12_readsForm_21 : decode cX12_readsForm 21 = .ok (.aload_n 0, 1) := by decide +kernel
theorem dX12_readsForm_22 : decode cX12_readsForm 22 = .ok (.getfield 16, 3) := by decide +kernel
theorem dX12_readsForm_25 : decode cX12_readsForm 25 = .ok (.iload_n 1, 1) := by decide +kernel
theorem dX12_readsForm_26 : decode cX12_readsForm 26 = .ok (.aload_n 0, 1) := by decide +kernel
theorem dX12_readsForm_27 : decode cX12_readsForm 27 = .ok (.getfield 91, 3) := by decide +kernel
theorem dX12_readsForm_30 : decode cX12_readsForm 30 = .ok (.aload_n 0, 1) := by decide +kernel
theorem dX12_readsForm_31 : decode cX12_readsForm 31 = .ok (.getfield 98, 3) := by decide +kernel
theorem dX12_readsForm_34 : decode cX12_readsForm 34 = .ok (.isub, 1) := by decide +kernel
theorem dX12_readsForm_35 : decode cX12_readsForm 35 = .ok (.iastore, 1) := by decide +kernel
theorem dX12_readsForm_36 : decode cX12_readsForm 36 = .ok (.iconst 0, 1) := by decide +kernel
theorem dX12_readsForm_37 : decode cX12_readsForm 37 = .ok (.istore_n 2, 1) := by decide +kernel
theorem dX12_readsForm_38 : decode cX12_readsForm 38 = .ok (.iload_n 2, 1) := by decide +kernel
theorem dX12_readsForm_39 : decode cX12_readsForm 39 = .ok (.aload_n 0, 1) := by decide +kernel
theorem dX12_readsForm_40 : decode cX12_readsForm 40 = .ok (.getfield 16, 3) := by decide +kernel
theorem dX12_readsForm_43 : decode cX12_readsForm 43 = .ok (.iload_n 1, 1) := by decide +kernel
theorem dX12_readsForm_44 : decode cX12_readsForm 44 = .ok (.iaload, 1) := by decide +kernel
theorem dX12_readsForm_45 : decode cX12_readsForm 45 = .ok (.if_icmp .ge 39, 3) := by decide +kernel
theorem dX12_readsForm_48 : decode cX12_readsForm 48 = .ok (.aload_n 0, 1) := by decide +kernel
theorem dX12_readsForm_49 : decode cX12_readsForm 49 = .ok (.invokevirtual 110, 3) := by decide +kernel
theorem dX12_readsForm_52 : decode cX12_readsForm 52 = .ok (.ifCond .eq 32, 3) := by decide +kernel
theorem dX12_readsForm_55 : decode cX12_readsForm 55 = .ok (.aload_n 0, 1) := by decide +kernel
theorem dX12_readsForm_56 : decode cX12_readsForm 56 = .ok (.getfield 16, 3) := by decide +kernel
theorem dX12_readsForm_59 : decode cX12_readsForm 59 = .ok (.iload_n 1, 1) := by decide +kernel
theorem dX12_readsForm_60 : decode cX12_readsForm 60 = .ok (.iconst 1, 1) := by decide +kernel
theorem dX12_readsForm_61 : decode cX12_readsForm 61 = .ok (.iadd, 1) := by decide +kernel
theorem dX12_readsForm_62 : decode cX12_readsForm 62 = .ok (.iload_n 2, 1) := by decide +kernel
theorem dX12_readsForm_63 : decode cX12_readsForm 63 = .ok (.iadd, 1) := by decide +kernel
theorem dX12_readsForm_64 : decode cX12_readsForm 64 = .ok (.aload_n 0, 1) := by decide +kernel
theorem dX12_readsForm_65 : decode cX12_readsForm 65 = .ok (.aload_n 0, 1) := by decide +kernel
theorem dX12_readsForm_66 : decode cX12_readsForm 66 = .ok (.getfield 98, 3) := by decide +kernel
theorem dX12_readsForm_69 : decode cX12_readsForm 69 = .ok (.iload_n 2, 1) := by decide +kernel
theorem dX12_readsForm_70 : decode cX12_readsForm 70 = .ok (.iadd, 1) := by decide +kernel
theorem dX12_readsForm_71 : decode cX12_readsForm 71 = .ok (.invokevirtual 94, 3) := by decide +kernel
theorem dX12_readsForm_74 : decode cX12_readsForm 74 = .ok (.bipush 97, 2) := by decide +kernel
theorem dX12_readsForm_76 : decode cX12_readsForm 76 = .ok (.isub, 1) := by decide +kernel
theorem dX12_readsForm_77 : decode cX12_readsForm 77 = .ok (.iastore, 1) := by decide +kernel
theorem dX12_readsForm_78 : decode cX12_readsForm 78 = .ok (.iinc 2 1, 3) := by decide +kernel
theorem dX12_readsForm_81 : decode cX12_readsForm 81 = .ok (.goto (-43), 3) := by decide +kernel
theorem dX12_readsForm_84 : decode cX12_readsForm 84 = .ok (.aload_n 0, 1) := by decide +kernel
theorem dX12_readsForm_85 : decode cX12_readsForm 85 = .ok (.dup, 1) := by decide +kernel
theorem dX12_readsForm_86 : decode cX12_readsForm 86 = .ok (.getfield 136, 3) := by decide +kernel
theorem dX12_readsForm_89 : decode cX12_readsForm 89 = .ok (.iconst 1, 1) := by decide +kernel
theorem dX12_readsForm_90 : decode cX12_readsForm 90 = .ok (.iadd, 1) := by decide +kernel
theorem dX12_readsForm_91 : decode cX12_readsForm 91 = .ok (.putfield 136, 3) := by decide +kernel
theorem dX12_readsForm_94 : decode cX12_readsForm 94 = .ok (.aload_n 0, 1) := by decide +kernel
theorem dX12_readsForm_95 : decode cX12_readsForm 95 = .ok (.invokevirtual 110, 3) := by decide +kernel
theorem dX12_readsForm_98 : decode cX12_readsForm 98 = .ok (.ifCond .eq 7, 3) := by decide +kernel
theorem dX12_readsForm_101 : decode cX12_readsForm 101 = .ok (.aload_n 0, 1) := by decide +kernel
theorem dX12_readsForm_102 : decode cX12_readsForm 102 = .ok (.invokevirtual 118, 3) := by decide +kernel
theorem dX12_readsForm_105 : decode cX12_readsForm 105 = .ok (.return_, 1) := by decide +kernel
theorem k_bp18 : (Int8.ofInt (18)).toInt32 = 18 := by decide
theorem q0_37 : Cond.selects RX12 yX12_areLetters yX12_areLetters ∈ TT := tq0 37 rfl rfl
theorem q4_233 : Cond.fieldLink RX12 16 "RhymeLawModel" "form" "[I" ∈ TT := tq4 233 rfl rfl
theorem q5_0 : Cond.fieldLink RX12 136 "RhymeLawModel" "draftForms" "I" ∈ TT := tq5 0 rfl rfl
theorem q5_155 : Cond.methodLink RX12 132 yX12_areLetters ∈ TT := tq5 155 rfl rfl
theorem q5_157 : Cond.instanceMethod yX12_areLetters ∈ TT := tq5 157 rfl rfl
theorem q5_158 : Cond.code yX12_areLetters cX12_areLetters 4 (some .boolean) ∈ TT := tq5 158 rfl rfl
theorem fg_RX12_136 {p : Program} {l : Launch} {e : Env} {R : Room} {s : State} {m : MethodId} {args : Array Value} {below : List Frame} {meth : Method} {c : Code} {D : gG} {tys : List (ClassId × FieldType)} {A : Nat → Prop} {nL : Nat} {Q : State → Prop} {cells slots : Nat} {cc : ByteArray} {ws : va_W} {L : List (Nat × Value)} {pc : Nat} {stk : List Value} (cx : gX p s m args meth c cc nL RX12 D tys A) {a : Nat} {fs : List Value} {v : Value} (q0 : Nat) (he : ws[q0]? = some (a, .inr (10, fs))) (hv : fs[17]? = some v) (hd : decode cc pc = .ok (.getfield 136, 3)) (kk : gW p l e R s m args below meth c D A nL Q cells slots ws L (pc + 3) (v :: stk)) : gW p l e R s m args below meth c D A nL Q cells slots ws L pc (.ref a :: stk) :=
  g_get cx (C := RX12) (T := TX12) (N := 38) inT12 rfl 17 (Nat.le_of_ble_eq_true rfl) q5_0 rfl q0 he hv hd kk
theorem mg_draftForms {p : Program} {l : Launch} {e : Env} {R : Room} {s : State} {m : MethodId} {args : Array Value} {below : List Frame} {meth : Method} {c : Code} {D : gG} {A : Nat → Prop} {nL : Nat} {Q : State → Prop} {cells slots : Nat} {cc : ByteArray} {L : List (Nat × Value)} {pc : Nat} {stk : List Value} {o : Nat → Nat} {cB cI cJ cZ : ClassId} {z : SM} (cx : gX p s m args meth c cc nL RX12 D (tyL cB cI cJ cZ) A) (hd : decode cc pc = .ok (.getfield 136, 3)) (kk : gW p l e R s m args below meth c D A nL Q cells slots (wX12 o cB cI cJ cZ z) L (pc + 3) (.int (mI z 17) :: stk)) : gW p l e R s m args below meth c D A nL Q cells slots (wX12 o cB cI cJ cZ z) L pc (.ref (o 0) :: stk) :=
  fg_RX12_136 cx 0 rfl rfl hd kk
theorem fp_RX12_136 {p : Program} {l : Launch} {e : Env} {R : Room} {s : State} {m : MethodId} {args : Array Value} {below : List Frame} {meth : Method} {c : Code} {D : gG} {tys : List (ClassId × FieldType)} {A : Nat → Prop} {nL : Nat} {Q : State → Prop} {cells slots : Nat} {cc : ByteArray} {ws : va_W} {L : List (Nat × Value)} {pc : Nat} {stk : List Value} (cx : gX p s m args meth c cc nL RX12 D tys A) {a : Nat} {fs : List Value} {x : Int32} (q0 : Nat) (he : ws[q0]? = some (a, .inr (10, fs))) (hl : 17 < fs.length) {ws' : va_W} (hw : ws.set q0 (a, .inr (10, fs.set 17 (.int x))) = ws') (hd : decode cc pc = .ok (.putfield 136, 3)) (kk : gW p l e R s m args below meth c D A nL Q cells slots ws' L (pc + 3) stk) : gW p l e R s m args below meth c D A nL Q cells slots ws L pc (.int x :: .ref a :: stk) :=
  g_put cx (C := RX12) (T := TX12) (N := 38) (ty0 := tyX12) (ty := .int) inT12 tyX12_ok nmX12 rfl 17 (Nat.le_of_ble_eq_true rfl) q5_0 rfl rfl rfl rfl rfl q0 he hl hw hd kk
theorem mp_draftForms {p : Program} {l : Launch} {e : Env} {R : Room} {s : State} {m : MethodId} {args : Array Value} {below : List Frame} {meth : Method} {c : Code} {D : gG} {A : Nat → Prop} {nL : Nat} {Q : State → Prop} {cells slots : Nat} {cc : ByteArray} {L : List (Nat × Value)} {pc : Nat} {stk : List Value} {β : Type} {r : β} {o : Nat → Nat} {cB cI cJ cZ : ClassId} {z : SM} (cx : gX p s m args meth c cc nL RX12 D (tyL cB cI cJ cZ) A) {x : Int32} {kf : SM → Option β} (hf : nm (mIs z 17 x) kf = some r) (hd : decode cc pc = .ok (.putfield 136, 3)) (kk : ∀ y : SM, kf y = some r → gW p l e R s m args below meth c D A nL Q cells slots (wX12 o cB cI cJ cZ y) L (pc + 3) stk) : gW p l e R s m args below meth c D A nL Q cells slots (wX12 o cB cI cJ cZ z) L pc (.int x :: .ref (o 0) :: stk) :=
  fp_RX12_136 cx 0 rfl (Nat.le_of_ble_eq_true rfl) (ws' := wX12 o cB cI cJ cZ (mIs z 17 x)) rfl hd (kk _ hf)
theorem fg_RX12_16 {p : Program} {l : Launch} {e : Env} {R : Room} {s : State} {m : MethodId} {args : Array Value} {below : List Frame} {meth : Method} {c : Code} {D : gG} {tys : List (ClassId × FieldType)} {A : Nat → Prop} {nL : Nat} {Q : State → Prop} {cells slots : Nat} {cc : ByteArray} {ws : va_W} {L : List (Nat × Value)} {pc : Nat} {stk : List Value} (cx : gX p s m args meth c cc nL RX12 D tys A) {a : Nat} {fs : List Value} {v : Value} (q0 : Nat) (he : ws[q0]? = some (a, .inr (10, fs))) (hv : fs[10]? = some v) (hd : decode cc pc = .ok (.getfield 16, 3)) (kk : gW p l e R s m args below meth c D A nL Q cells slots ws L (pc + 3) (v :: stk)) : gW p l e R s m args below meth c D A nL Q cells slots ws L pc (.ref a :: stk) :=
  g_get cx (C := RX12) (T := TX12) (N := 38) inT12 rfl 10 (Nat.le_of_ble_eq_true rfl) q4_233 rfl q0 he hv hd kk
theorem mg_form {p : Program} {l : Launch} {e : Env} {R : Room} {s : State} {m : MethodId} {args : Array Value} {below : List Frame} {meth : Method} {c : Code} {D : gG} {A : Nat → Prop} {nL : Nat} {Q : State → Prop} {cells slots : Nat} {cc : ByteArray} {L : List (Nat × Value)} {pc : Nat} {stk : List Value} {o : Nat → Nat} {cB cI cJ cZ : ClassId} {z : SM} (cx : gX p s m args meth c cc nL RX12 D (tyL cB cI cJ cZ) A) (hd : decode cc pc = .ok (.getfield 16, 3)) (kk : gW p l e R s m args below meth c D A nL Q cells slots (wX12 o cB cI cJ cZ z) L (pc + 3) (.ref (o 3) :: stk)) : gW p l e R s m args below meth c D A nL Q cells slots (wX12 o cB cI cJ cZ z) L pc (.ref (o 0) :: stk) :=
  fg_RX12_16 cx 0 rfl rfl hd kk
theorem ms_form {p : Program} {l : Launch} {e : Env} {R : Room} {s : State} {m : MethodId} {args : Array Value} {below : List Frame} {meth : Method} {c : Code} {D : gG} {A : Nat → Prop} {nL : Nat} {Q : State → Prop} {cells slots : Nat} {cc : ByteArray} {L : List (Nat × Value)} {pc : Nat} {stk : List Value} {β : Type} {r : β} {o : Nat → Nat} {cB cI cJ cZ : ClassId} {z : SM} (cx : gX p s m args meth c cc nL RX12 D (tyL cB cI cJ cZ) A) {i : Int32} {x : Int32} {kf : SM → Option β} (hf : ((aset 36 (mA z 10) i x).bind fun f => nm (mAs z 10 f) kf) = some r) (hd : decode cc pc = .ok (.iastore, 1)) (kk : ∀ y : SM, kf y = some r → gW p l e R s m args below meth c D A nL Q cells slots (wX12 o cB cI cJ cZ y) L (pc + 1) stk) : gW p l e R s m args below meth c D A nL Q cells slots (wX12 o cB cI cJ cZ z) L pc (.int x :: .int i :: .ref (o 3) :: stk) :=
  g_iast cx 3 1 (ws' := fun f => wX12 o cB cI cJ cZ (mAs z 10 f)) hf rfl rfl (fun _ => rfl) hd (fun _ hf => kk _ hf)
theorem ml_form {p : Program} {l : Launch} {e : Env} {R : Room} {s : State} {m : MethodId} {args : Array Value} {below : List Frame} {meth : Method} {c : Code} {D : gG} {A : Nat → Prop} {nL : Nat} {Q : State → Prop} {cells slots : Nat} {cc : ByteArray} {L : List (Nat × Value)} {pc : Nat} {stk : List Value} {β : Type} {r : β} {o : Nat → Nat} {cB cI cJ cZ : ClassId} {z : SM} (cx : gX p s m args meth c cc nL RX12 D (tyL cB cI cJ cZ) A) {i : Int32} {kf : Int32 → Option β} (hf : (aget 36 (mA z 10) i).bind kf = some r) (hd : decode cc pc = .ok (.iaload, 1)) (kk : ∀ v : Int32, kf v = some r → gW p l e R s m args below meth c D A nL Q cells slots (wX12 o cB cI cJ cZ z) L (pc + 1) (.int v :: stk)) : gW p l e R s m args below meth c D A nL Q cells slots (wX12 o cB cI cJ cZ z) L pc (.int i :: .ref (o 3) :: stk) :=
  g_iald cx 3 1 hf rfl rfl hd kk
theorem lk_RX12_132 : vlk RX12 132 yX12_areLetters cX12_areLetters 4 (some .boolean) 1 := ⟨List.forall_mem_cons.mpr ⟨q5_155, List.forall_mem_cons.mpr ⟨q5_157, List.forall_mem_cons.mpr ⟨q0_37, List.forall_mem_cons.mpr ⟨q1_12, fun _ h => absurd h List.not_mem_nil⟩⟩⟩⟩, q5_158, by decide, by decide, by decide +kernel⟩
def F_X12_readsForm_b84 (zs_o : SM) : Option (SM) := nm (mIs zs_o 17 ((mI zs_o 17) + 1)) fun s_o_1 => (F_X12_isWell s_o_1).bind fun q_2 => (if q_2 = 0 then some (s_o_1) else (F_X12_advances s_o_1).bind fun q_3 => some (q_3))
def F_X12_readsForm_b38 : Nat → Int32 → Int32 → SM → Option (SM)
  | 0, _, _, _ => none
  | n + 1, v1, v2, zs_o => (aget 36 (mA zs_o 10) v1).bind fun e_4 => (if e_4 ≤ v2 then F_X12_readsForm_b84  zs_o else (F_X12_isWell zs_o).bind fun q_5 => (if q_5 = 0 then F_X12_readsForm_b84  zs_o else (F_X12_byteAt zs_o ((mI zs_o 6) + v2)).bind fun q_6 => (aset 36 (mA zs_o 10) ((v1 + 1) + v2) (q_6 - 97)).bind fun f_7 => nm (mAs zs_o 10 f_7) fun s_o_8 => nm (v2 + 1) fun v2_9 => (F_X12_readsForm_b38  n) v1 v2_9 s_o_8))
def F_X12_readsForm (s_o : SM) : Option (SM) := (F_X12_areLetters s_o 8).bind fun q_10 => (F_X12_wants s_o q_10).bind fun q_11 => nm (18 + (9 * (mI q_11 17))) fun v1_12 => (aset 36 (mA q_11 10) v1_12 ((mI q_11 4) - (mI q_11 6))).bind fun f_13 => nm (mAs q_11 10 f_13) fun s_o_14 => nm 0 fun v2_15 => F_X12_readsForm_b38  fu v1_12 v2_15 s_o_14

abbrev rm_X12_readsForm : Room := { frames := 2, cells := 0, slots := 0, locals := 45 }
set_option maxHeartbeats 4000000 in
set_option maxRecDepth 100000 in
theorem c_X12_readsForm (l : Launch) (D : gG) (cB cI cJ cZ : ClassId) (o : Nat → Nat) (s_o : SM) (r : SM) (hf : F_X12_readsForm s_o = some r) : gM l D (tyL cB cI cJ cZ) yX12_readsForm cX12_readsForm 3 none rm_X12_readsForm [.ref (o 0)] (wX12 o cB cI cJ cZ s_o) none (wX12 o cB cI cJ cZ r) := by
  refine met_of (by decide) (Nat.le_of_ble_eq_true rfl) ?_
  intro p e s m args below meth c A cx hr hA
  show gW p l e rm_X12_readsForm s m args below meth c D A 3 _ 0 0 _ [(0, .ref (o 0))] 0 []
  have h84 : ∀ (zs_o : SM), F_X12_readsForm_b84  zs_o = some r → gW p l e rm_X12_readsForm s m args below meth c D A 3 (MQ below (QM D (tyL cB cI cJ cZ) none (wX12 o cB cI cJ cZ s_o) (wX12 o cB cI cJ cZ r) s.heap.size) args s 0 0 A) 0 0 (wX12 o cB cI cJ cZ zs_o) [(0, .ref (o 0))] 84 [] := by
    intro zs_o hf
    rw [F_X12_readsForm_b84] at hf
    refine g_aln cx 0 dX12_readsForm_84 rfl ?_
    refine g_dup cx dX12_readsForm_85 rfl ?_
    refine mg_draftForms cx dX12_readsForm_86 ?_
    refine g_ic cx dX12_readsForm_89 k_ic1 ?_
    refine g_iadd cx dX12_readsForm_90 ?_
    refine mp_draftForms cx hf dX12_readsForm_91 (fun s_o_1 hf => ?_)
    refine g_aln cx 0 dX12_readsForm_94 rfl ?_
    refine ob hf (fun q_2 hq_2 hf => ?_)
    refine g_callVFi cx lk_RX12_110 (c_X12_isWell l D cB cI cJ cZ o s_o_1 q_2 hq_2) rfl (ci := 10) (q1 := 0) rfl rfl rfl (Nat.le_of_ble_eq_true rfl) ⟨rfl, rfl, Nat.le_of_ble_eq_true rfl, Nat.le_of_ble_eq_true rfl⟩ dX12_readsForm_95 ?_
    refine g_if_eq (tgt := 105) cx hf dX12_readsForm_98 rfl (fun hf => ?_) (fun hf => ?_)
    · exact g_vret (ovf := fun (r : SM) => none) (wf := fun (r : SM) => (wX12 o cB cI cJ cZ r)) cx hA hr hf rfl rfl dX12_readsForm_105
    · refine g_aln cx 0 dX12_readsForm_101 rfl ?_
      refine ob hf (fun q_3 hq_3 hf => ?_)
      refine g_callVFv cx lk_RX12_118 (c_X12_advances l D cB cI cJ cZ o s_o_1 q_3 hq_3) rfl (ci := 10) (q1 := 0) rfl rfl rfl (Nat.le_of_ble_eq_true rfl) ⟨rfl, rfl, Nat.le_of_ble_eq_true rfl, Nat.le_of_ble_eq_true rfl⟩ dX12_readsForm_102 ?_
      exact g_vret (ovf := fun (r : SM) => none) (wf := fun (r : SM) => (wX12 o cB cI cJ cZ r)) cx hA hr hf rfl rfl dX12_readsForm_105
  have h38 : ∀ (n : Nat) (v1 : Int32) (v2 : Int32) (zs_o : SM), F_X12_readsForm_b38  n v1 v2 zs_o = some r → gW p l e rm_X12_readsForm s m args below meth c D A 3 (MQ below (QM D (tyL cB cI cJ cZ) none (wX12 o cB cI cJ cZ s_o) (wX12 o cB cI cJ cZ r) s.heap.size) args s 0 0 A) 0 0 (wX12 o cB cI cJ cZ zs_o) [(0, .ref (o 0)), (1, .int v1), (2, .int v2)] 38 [] := by
    intro n
    induction n with
    | zero => intro v1 v2 zs_o hf; rw [F_X12_readsForm_b38] at hf; cases hf
    | succ n ih =>
      intro v1 v2 zs_o hf
      rw [F_X12_readsForm_b38] at hf
      refine g_iln cx 2 dX12_readsForm_38 rfl ?_
      refine g_aln cx 0 dX12_readsForm_39 rfl ?_
      refine mg_form cx dX12_readsForm_40 ?_
      refine g_iln cx 1 dX12_readsForm_43 rfl ?_
      refine ml_form cx hf dX12_readsForm_44 (fun e_4 hf => ?_)
      refine g_ic_ge (tgt := 84) cx hf dX12_readsForm_45 rfl (fun hf => ?_) (fun hf => ?_)
      · refine g_sub [0] rfl ?_
        exact h84 _ hf
      · refine g_aln cx 0 dX12_readsForm_48 rfl ?_
        refine ob hf (fun q_5 hq_5 hf => ?_)
        refine g_callVFi cx lk_RX12_110 (c_X12_isWell l D cB cI cJ cZ o zs_o q_5 hq_5) rfl (ci := 10) (q1 := 0) rfl rfl rfl (Nat.le_of_ble_eq_true rfl) ⟨rfl, rfl, Nat.le_of_ble_eq_true rfl, Nat.le_of_ble_eq_true rfl⟩ dX12_readsForm_49 ?_
        refine g_if_eq (tgt := 84) cx hf dX12_readsForm_52 rfl (fun hf => ?_) (fun hf => ?_)
        · refine g_sub [0] rfl ?_
          exact h84 _ hf
        · refine g_aln cx 0 dX12_readsForm_55 rfl ?_
          refine mg_form cx dX12_readsForm_56 ?_
          refine g_iln cx 1 dX12_readsForm_59 rfl ?_
          refine g_ic cx dX12_readsForm_60 k_ic1 ?_
          refine g_iadd cx dX12_readsForm_61 ?_
          refine g_iln cx 2 dX12_readsForm_62 rfl ?_
          refine g_iadd cx dX12_readsForm_63 ?_
          refine g_aln cx 0 dX12_readsForm_64 rfl ?_
          refine g_aln cx 0 dX12_readsForm_65 rfl ?_
          refine mg_place cx dX12_readsForm_66 ?_
          refine g_iln cx 2 dX12_readsForm_69 rfl ?_
          refine g_iadd cx dX12_readsForm_70 ?_
          refine ob hf (fun q_6 hq_6 hf => ?_)
          refine g_callVFi cx lk_RX12_94 (c_X12_byteAt l D cB cI cJ cZ o zs_o ((mI zs_o 6) + v2) q_6 hq_6) rfl (ci := 10) (q1 := 0) rfl rfl rfl (Nat.le_of_ble_eq_true rfl) ⟨rfl, rfl, Nat.le_of_ble_eq_true rfl, Nat.le_of_ble_eq_true rfl⟩ dX12_readsForm_71 ?_
          refine g_bp cx dX12_readsForm_74 k_bp97 ?_
          refine g_isub cx dX12_readsForm_76 ?_
          refine ms_form cx hf dX12_readsForm_77 (fun s_o_8 hf => ?_)
          refine g_inc cx (L2 := fun v2_9 => [(2, .int v2_9), (0, .ref (o 0)), (1, .int v1)]) 2 hf dX12_readsForm_78 rfl (k_inc1 _) (Nat.le_of_ble_eq_true rfl) (fun _ => rfl) (fun v2_9 hf => ?_)
          refine g_goto (tgt := 38) cx dX12_readsForm_81 rfl ?_
          refine g_sub [1, 2, 0] rfl ?_
          exact ih _ _ _ hf
  rw [F_X12_readsForm] at hf
  refine g_aln cx 0 dX12_readsForm_0 rfl ?_
  refine g_aln cx 0 dX12_readsForm_1 rfl ?_
  refine g_bp cx dX12_readsForm_2 k_bp8 ?_
  refine ob hf (fun q_10 hq_10 hf => ?_)
  refine g_callVFi cx lk_RX12_132 (c_X12_areLetters l D cB cI cJ cZ o s_o 8 q_10 hq_10) rfl (ci := 10) (q1 := 0) rfl rfl rfl (Nat.le_of_ble_eq_true rfl) ⟨rfl, rfl, Nat.le_of_ble_eq_true rfl, Nat.le_of_ble_eq_true rfl⟩ dX12_readsForm_4 ?_
  refine ob hf (fun q_11 hq_11 hf => ?_)
  refine g_callVFv cx lk_RX12_114 (c_X12_wants l D cB cI cJ cZ o s_o q_10 q_11 hq_11) rfl (ci := 10) (q1 := 0) rfl rfl rfl (Nat.le_of_ble_eq_true rfl) ⟨rfl, rfl, Nat.le_of_ble_eq_true rfl, Nat.le_of_ble_eq_true rfl⟩ dX12_readsForm_7 ?_
  refine g_bp cx dX12_readsForm_10 k_bp18 ?_
  refine g_bp cx dX12_readsForm_12 k_bp9 ?_
  refine g_aln cx 0 dX12_readsForm_14 rfl ?_
  refine mg_draftForms cx dX12_readsForm_15 ?_
  refine g_imul cx dX12_readsForm_18 ?_
  refine g_iadd cx dX12_readsForm_19 ?_
  refine g_isn cx (L2 := fun v1_12 => [(1, .int v1_12), (0, .ref (o 0))]) hf dX12_readsForm_20 (Nat.le_of_ble_eq_true rfl) (fun _ => rfl) (fun v1_12 hf => ?_)
  refine g_aln cx 1 dX12_readsForm_21 rfl ?_
  refine mg_form cx dX12_readsForm_22 ?_
  refine g_iln cx 0 dX12_readsForm_25 rfl ?_
  refine g_aln cx 1 dX12_readsForm_26 rfl ?_
  refine mg_next cx dX12_readsForm_27 ?_
  refine g_aln cx 1 dX12_readsForm_30 rfl ?_
  refine mg_place cx dX12_readsForm_31 ?_
  refine g_isub cx dX12_readsForm_34 ?_
  refine ms_form cx hf dX12_readsForm_35 (fun s_o_14 hf => ?_)
  refine g_ic cx dX12_readsForm_36 k_ic0 ?_
  refine g_isn cx (L2 := fun v2_15 => [(2, .int v2_15), (1, .int v1_12), (0, .ref (o 0))]) hf dX12_readsForm_37 (Nat.le_of_ble_eq_true rfl) (fun _ => rfl) (fun v2_15 hf => ?_)
  refine g_sub [2, 1, 0] rfl ?_
  exact h38 fu _ _ _ hf
theorem dX12_readsMetre_0 : decode cX12_readsMetre 0 = .ok (.aload_n 0, 1) := by decide +kernel
theorem dX12_readsMetre_1 : decode cX12_readsMetre 1 = .ok (.aload_n 0, 1) := by decide +kernel
theorem dX12_readsMetre_2 : decode cX12_readsMetre 2 = .ok (.iconst 1, 1) := by decide +kernel
theorem dX12_readsMetre_3 : decode cX12_readsMetre 3 = .ok (.invokevirtual 132, 3) := by decide +kernel
theorem dX12_readsMetre_6 : decode cX12_readsMetre 6 = .ok (.invokevirtual 114, 3) := by decide +kernel
theorem dX12_readsMetre_9 : decode cX12_readsMetre 9 = .ok (.aload_n 0, 1) := by decide +kernel
theorem dX12_readsMetre_10 : decode cX12_readsMetre 10 = .ok (.invokevirtual 110, 3) := by decide +kernel
theorem dX12_readsMetre_13 : decode cX12_readsMetre 13 = .ok (.ifCond .eq 17, 3) := by decide +kernel
theorem dX12_readsMetre_16 : decode cX12_readsMetre 16 = .ok (.aload_n 0, 1) := by decide +kernel
theorem dX12_readsMetre_17 : decode cX12_readsMetre 17 = .ok (.aload_n 0, 1) := by decide +kernel
theorem dX12_readsMetre_18 : decode cX12_readsMetre 18 = .ok (.getfield 98, 3) := by decide +kernel
theorem dX12_readsMetre_21 : decode cX12_readsMetre 21 = .ok (.invokevirtual 94, 3) := by decide +kernel
theorem dX12_readsMetre_24 : decode cX12_readsMetre 24 = .ok (.bipush 97, 2) := by decide +kernel
theorem dX12_readsMetre_26 : decode cX12_readsMetre 26 = .ok (.isub, 1) := by decide +kernel
theorem dX12_readsMetre_27 : decode cX12_readsMetre 27 = .ok (.goto 4, 3) := by decide +kernel
theorem dX12_readsMetre_30 : decode cX12_readsMetre 30 = .ok (.iconst 0, 1) := by decide +kernel
theorem dX12_readsMetre_31 : decode cX12_readsMetre 31 = .ok (.istore_n 1, 1) := by decide +kernel
theorem dX12_readsMetre_32 : decode cX12_readsMetre 32 = .ok (.aload_n 0, 1) := by decide +kernel
theorem dX12_readsMetre_33 : decode cX12_readsMetre 33 = .ok (.invokevirtual 110, 3) := by decide +kernel
theorem dX12_readsMetre_36 : decode cX12_readsMetre 36 = .ok (.ifCond .eq 7, 3) := by decide +kernel
theorem dX12_readsMetre_39 : decode cX12_readsMetre 39 = .ok (.aload_n 0, 1) := by decide +kernel
theorem dX12_readsMetre_40 : decode cX12_readsMetre 40 = .ok (.invokevirtual 118, 3) := by decide +kernel
theorem dX12_readsMetre_43 : decode cX12_readsMetre 43 = .ok (.aload_n 0, 1) := by decide +kernel
theorem dX12_readsMetre_44 : decode cX12_readsMetre 44 = .ok (.iconst 0, 1) := by decide +kernel
theorem dX12_readsMetre_45 : decode cX12_readsMetre 45 = .ok (.bipush 20, 2) := by decide +kernel
theorem dX12_readsMetre_47 : decode cX12_readsMetre 47 = .ok (.invokevirtual 128, 3) := by decide +kernel
theorem dX12_readsMetre_50 : decode cX12_readsMetre 50 = .ok (.istore_n 2, 1) := by decide +kernel
theorem dX12_readsMetre_51 : decode cX12_readsMetre 51 = .ok (.aload_n 0, 1) := by decide +kernel
theorem dX12_readsMetre_52 : decode cX12_readsMetre 52 = .ok (.invokevirtual 110, 3) := by decide +kernel
theorem dX12_readsMetre_55 : decode cX12_readsMetre 55 = .ok (.ifCond .eq 13, 3) := by decide +kernel
theorem dX12_readsMetre_58 : decode cX12_readsMetre 58 = .ok (.aload_n 0, 1) := by decide +kernel
theorem dX12_readsMetre_59 : decode cX12_readsMetre 59 = .ok (.getfield 19, 3) := by decide +kernel
theorem dX12_readsMetre_62 : decode cX12_readsMetre 62 = .ok (.bipush 8, 2) := by decide +kernel
theorem dX12_readsMetre_64 : decode cX12_readsMetre 64 = .ok (.iload_n 1, 1) := by decide +kernel
theorem dX12_readsMetre_65 : decode cX12_readsMetre 65 = .ok (.iadd, 1) := by decide +kernel
theorem dX12_readsMetre_66 : decode cX12_readsMetre 66 = .ok (.iload_n 2, 1) := by decide +kernel
theorem dX12_readsMetre_67 : decode cX12_readsMetre 67 = .ok (.iastore, 1) := by decide +kernel
theorem dX12_readsMetre_68 : decode cX12_readsMetre 68 = .ok (.return_, 1) := by decide +kernel
theorem q4_234 : Cond.fieldLink RX12 19 "RhymeLawModel" "metre" "[I" ∈ TT := tq4 234 rfl rfl
theorem fg_RX12_19 {p : Program} {l : Launch} {e : Env} {R : Room} {s : State} {m : MethodId} {args : Array Value} {below : List Frame} {meth : Method} {c : Code} {D : gG} {tys : List (ClassId × FieldType)} {A : Nat → Prop} {nL : Nat} {Q : State → Prop} {cells slots : Nat} {cc : ByteArray} {ws : va_W} {L : List (Nat × Value)} {pc : Nat} {stk : List Value} (cx : gX p s m args meth c cc nL RX12 D tys A) {a : Nat} {fs : List Value} {v : Value} (q0 : Nat) (he : ws[q0]? = some (a, .inr (10, fs))) (hv : fs[11]? = some v) (hd : decode cc pc = .ok (.getfield 19, 3)) (kk : gW p l e R s m args below meth c D A nL Q cells slots ws L (pc + 3) (v :: stk)) : gW p l e R s m args below meth c D A nL Q cells slots ws L pc (.ref a :: stk) :=
  g_get cx (C := RX12) (T := TX12) (N := 38) inT12 rfl 11 (Nat.le_of_ble_eq_true rfl) q4_234 rfl q0 he hv hd kk
theorem mg_metre {p : Program} {l : Launch} {e : Env} {R : Room} {s : State} {m : MethodId} {args : Array Value} {below : List Frame} {meth : Method} {c : Code} {D : gG} {A : Nat → Prop} {nL : Nat} {Q : State → Prop} {cells slots : Nat} {cc : ByteArray} {L : List (Nat × Value)} {pc : Nat} {stk : List Value} {o : Nat → Nat} {cB cI cJ cZ : ClassId} {z : SM} (cx : gX p s m args meth c cc nL RX12 D (tyL cB cI cJ cZ) A) (hd : decode cc pc = .ok (.getfield 19, 3)) (kk : gW p l e R s m args below meth c D A nL Q cells slots (wX12 o cB cI cJ cZ z) L (pc + 3) (.ref (o 4) :: stk)) : gW p l e R s m args below meth c D A nL Q cells slots (wX12 o cB cI cJ cZ z) L pc (.ref (o 0) :: stk) :=
  fg_RX12_19 cx 0 rfl rfl hd kk
theorem ms_metre {p : Program} {l : Launch} {e : Env} {R : Room} {s : State} {m : MethodId} {args : Array Value} {below : List Frame} {meth : Method} {c : Code} {D : gG} {A : Nat → Prop} {nL : Nat} {Q : State → Prop} {cells slots : Nat} {cc : ByteArray} {L : List (Nat × Value)} {pc : Nat} {stk : List Value} {β : Type} {r : β} {o : Nat → Nat} {cB cI cJ cZ : ClassId} {z : SM} (cx : gX p s m args meth c cc nL RX12 D (tyL cB cI cJ cZ) A) {i : Int32} {x : Int32} {kf : SM → Option β} (hf : ((aset 16 (mA z 11) i x).bind fun f => nm (mAs z 11 f) kf) = some r) (hd : decode cc pc = .ok (.iastore, 1)) (kk : ∀ y : SM, kf y = some r → gW p l e R s m args below meth c D A nL Q cells slots (wX12 o cB cI cJ cZ y) L (pc + 1) stk) : gW p l e R s m args below meth c D A nL Q cells slots (wX12 o cB cI cJ cZ z) L pc (.int x :: .int i :: .ref (o 4) :: stk) :=
  g_iast cx 4 1 (ws' := fun f => wX12 o cB cI cJ cZ (mAs z 11 f)) hf rfl rfl (fun _ => rfl) hd (fun _ hf => kk _ hf)
def F_X12_readsMetre_b43 (v1 : Int32) (zs_o : SM) : Option (SM) := (F_X12_number zs_o 0 20).bind fun q_1 => nm q_1.1 fun v2_2 => (F_X12_isWell q_1.2).bind fun q_3 => (if q_3 = 0 then some (q_1.2) else (aset 16 (mA q_1.2 11) (8 + v1) v2_2).bind fun f_4 => nm (mAs q_1.2 11 f_4) fun s_o_5 => some (s_o_5))
def F_X12_readsMetre_b31 (zs_o : SM) (k0 : Int32) : Option (SM) := nm k0 fun v1_6 => (F_X12_isWell zs_o).bind fun q_7 => (if q_7 = 0 then F_X12_readsMetre_b43  v1_6 zs_o else (F_X12_advances zs_o).bind fun q_8 => F_X12_readsMetre_b43  v1_6 q_8)
def F_X12_readsMetre (s_o : SM) : Option (SM) := (F_X12_areLetters s_o 1).bind fun q_9 => (F_X12_wants s_o q_9).bind fun q_10 => (F_X12_isWell q_10).bind fun q_11 => (if q_11 = 0 then F_X12_readsMetre_b31  q_10 0 else (F_X12_byteAt q_10 (mI q_10 6)).bind fun q_12 => F_X12_readsMetre_b31  q_10 (q_12 - 97))

abbrev rm_X12_readsMetre : Room := { frames := 3, cells := 0, slots := 0, locals := 66 }
set_option maxHeartbeats 4000000 in
set_option maxRecDepth 100000 in
theorem c_X12_readsMetre (l : Launch) (D : gG) (cB cI cJ cZ : ClassId) (o : Nat → Nat) (s_o : SM) (r : SM) (hf : F_X12_readsMetre s_o = some r) : gM l D (tyL cB cI cJ cZ) yX12_readsMetre cX12_readsMetre 3 none rm_X12_readsMetre [.ref (o 0)] (wX12 o cB cI cJ cZ s_o) none (wX12 o cB cI cJ cZ r) := by
  refine met_of (by decide) (Nat.le_of_ble_eq_true rfl) ?_
  intro p e s m args below meth c A cx hr hA
  show gW p l e rm_X12_readsMetre s m args below meth c D A 3 _ 0 0 _ [(0, .ref (o 0))] 0 []
  have h43 : ∀ (v1 : Int32) (zs_o : SM), F_X12_readsMetre_b43  v1 zs_o = some r → gW p l e rm_X12_readsMetre s m args below meth c D A 3 (MQ below (QM D (tyL cB cI cJ cZ) none (wX12 o cB cI cJ cZ s_o) (wX12 o cB cI cJ cZ r) s.heap.size) args s 0 0 A) 0 0 (wX12 o cB cI cJ cZ zs_o) [(0, .ref (o 0)), (1, .int v1)] 43 [] := by
    intro v1 zs_o hf
    rw [F_X12_readsMetre_b43] at hf
    refine g_aln cx 0 dX12_readsMetre_43 rfl ?_
    refine g_ic cx dX12_readsMetre_44 k_ic0 ?_
    refine g_bp cx dX12_readsMetre_45 k_bp20 ?_
    refine ob hf (fun q_1 hq_1 hf => ?_)
    refine g_callVFi cx lk_RX12_128 (c_X12_number l D cB cI cJ cZ o zs_o 0 20 q_1 hq_1) rfl (ci := 10) (q1 := 0) rfl rfl rfl (Nat.le_of_ble_eq_true rfl) ⟨rfl, rfl, Nat.le_of_ble_eq_true rfl, Nat.le_of_ble_eq_true rfl⟩ dX12_readsMetre_47 ?_
    refine g_isn cx (L2 := fun v2_2 => [(2, .int v2_2), (0, .ref (o 0)), (1, .int v1)]) hf dX12_readsMetre_50 (Nat.le_of_ble_eq_true rfl) (fun _ => rfl) (fun v2_2 hf => ?_)
    refine g_aln cx 1 dX12_readsMetre_51 rfl ?_
    refine ob hf (fun q_3 hq_3 hf => ?_)
    refine g_callVFi cx lk_RX12_110 (c_X12_isWell l D cB cI cJ cZ o q_1.2 q_3 hq_3) rfl (ci := 10) (q1 := 0) rfl rfl rfl (Nat.le_of_ble_eq_true rfl) ⟨rfl, rfl, Nat.le_of_ble_eq_true rfl, Nat.le_of_ble_eq_true rfl⟩ dX12_readsMetre_52 ?_
    refine g_if_eq (tgt := 68) cx hf dX12_readsMetre_55 rfl (fun hf => ?_) (fun hf => ?_)
    · exact g_vret (ovf := fun (r : SM) => none) (wf := fun (r : SM) => (wX12 o cB cI cJ cZ r)) cx hA hr hf rfl rfl dX12_readsMetre_68
    · refine g_aln cx 1 dX12_readsMetre_58 rfl ?_
      refine mg_metre cx dX12_readsMetre_59 ?_
      refine g_bp cx dX12_readsMetre_62 k_bp8 ?_
      refine g_iln cx 2 dX12_readsMetre_64 rfl ?_
      refine g_iadd cx dX12_readsMetre_65 ?_
      refine g_iln cx 0 dX12_readsMetre_66 rfl ?_
      refine ms_metre cx hf dX12_readsMetre_67 (fun s_o_5 hf => ?_)
      exact g_vret (ovf := fun (r : SM) => none) (wf := fun (r : SM) => (wX12 o cB cI cJ cZ r)) cx hA hr hf rfl rfl dX12_readsMetre_68
  have h31 : ∀ (zs_o : SM) (k0 : Int32), F_X12_readsMetre_b31  zs_o k0 = some r → gW p l e rm_X12_readsMetre s m args below meth c D A 3 (MQ below (QM D (tyL cB cI cJ cZ) none (wX12 o cB cI cJ cZ s_o) (wX12 o cB cI cJ cZ r) s.heap.size) args s 0 0 A) 0 0 (wX12 o cB cI cJ cZ zs_o) [(0, .ref (o 0))] 31 [.int k0] := by
    intro zs_o k0 hf
    rw [F_X12_readsMetre_b31] at hf
    refine g_isn cx (L2 := fun v1_6 => [(1, .int v1_6), (0, .ref (o 0))]) hf dX12_readsMetre_31 (Nat.le_of_ble_eq_true rfl) (fun _ => rfl) (fun v1_6 hf => ?_)
    refine g_aln cx 1 dX12_readsMetre_32 rfl ?_
    refine ob hf (fun q_7 hq_7 hf => ?_)
    refine g_callVFi cx lk_RX12_110 (c_X12_isWell l D cB cI cJ cZ o zs_o q_7 hq_7) rfl (ci := 10) (q1 := 0) rfl rfl rfl (Nat.le_of_ble_eq_true rfl) ⟨rfl, rfl, Nat.le_of_ble_eq_true rfl, Nat.le_of_ble_eq_true rfl⟩ dX12_readsMetre_33 ?_
    refine g_if_eq (tgt := 43) cx hf dX12_readsMetre_36 rfl (fun hf => ?_) (fun hf => ?_)
    · refine g_sub [1, 0] rfl ?_
      exact h43 _ _ hf
    · refine g_aln cx 1 dX12_readsMetre_39 rfl ?_
      refine ob hf (fun q_8 hq_8 hf => ?_)
      refine g_callVFv cx lk_RX12_118 (c_X12_advances l D cB cI cJ cZ o zs_o q_8 hq_8) rfl (ci := 10) (q1 := 0) rfl rfl rfl (Nat.le_of_ble_eq_true rfl) ⟨rfl, rfl, Nat.le_of_ble_eq_true rfl, Nat.le_of_ble_eq_true rfl⟩ dX12_readsMetre_40 ?_
      refine g_sub [1, 0] rfl ?_
      exact h43 _ _ hf
  rw [F_X12_readsMetre] at hf
  refine g_aln cx 0 dX12_readsMetre_0 rfl ?_
  refine g_aln cx 0 dX12_readsMetre_1 rfl ?_
  refine g_ic cx dX12_readsMetre_2 k_ic1 ?_
  refine ob hf (fun q_9 hq_9 hf => ?_)
  refine g_callVFi cx lk_RX12_132 (c_X12_areLetters l D cB cI cJ cZ o s_o 1 q_9 hq_9) rfl (ci := 10) (q1 := 0) rfl rfl rfl (Nat.le_of_ble_eq_true rfl) ⟨rfl, rfl, Nat.le_of_ble_eq_true rfl, Nat.le_of_ble_eq_true rfl⟩ dX12_readsMetre_3 ?_
  refine ob hf (fun q_10 hq_10 hf => ?_)
  refine g_callVFv cx lk_RX12_114 (c_X12_wants l D cB cI cJ cZ o s_o q_9 q_10 hq_10) rfl (ci := 10) (q1 := 0) rfl rfl rfl (Nat.le_of_ble_eq_true rfl) ⟨rfl, rfl, Nat.le_of_ble_eq_true rfl, Nat.le_of_ble_eq_true rfl⟩ dX12_readsMetre_6 ?_
  refine g_aln cx 0 dX12_readsMetre_9 rfl ?_
  refine ob hf (fun q_11 hq_11 hf => ?_)
  refine g_callVFi cx lk_RX12_110 (c_X12_isWell l D cB cI cJ cZ o q_10 q_11 hq_11) rfl (ci := 10) (q1 := 0) rfl rfl rfl (Nat.le_of_ble_eq_true rfl) ⟨rfl, rfl, Nat.le_of_ble_eq_true rfl, Nat.le_of_ble_eq_true rfl⟩ dX12_readsMetre_10 ?_
  refine g_if_eq (tgt := 30) cx hf dX12_readsMetre_13 rfl (fun hf => ?_) (fun hf => ?_)
  · refine g_ic cx dX12_readsMetre_30 k_ic0 ?_
    exact h31 _ _ hf
  · refine g_aln cx 0 dX12_readsMetre_16 rfl ?_
    refine g_aln cx 0 dX12_readsMetre_17 rfl ?_
    refine mg_place cx dX12_readsMetre_18 ?_
    refine ob hf (fun q_12 hq_12 hf => ?_)
    refine g_callVFi cx lk_RX12_94 (c_X12_byteAt l D cB cI cJ cZ o q_10 (mI q_10 6) q_12 hq_12) rfl (ci := 10) (q1 := 0) rfl rfl rfl (Nat.le_of_ble_eq_true rfl) ⟨rfl, rfl, Nat.le_of_ble_eq_true rfl, Nat.le_of_ble_eq_true rfl⟩ dX12_readsMetre_21 ?_
    refine g_bp cx dX12_readsMetre_24 k_bp97 ?_
    refine g_isub cx dX12_readsMetre_26 ?_
    refine g_goto (tgt := 31) cx dX12_readsMetre_27 rfl ?_
    exact h31 _ _ hf
theorem dX12_readsLine_0 : decode cX12_readsLine 0 = .ok (.aload_n 1, 1) := by decide +kernel
theorem dX12_readsLine_1 : decode cX12_readsLine 1 = .ok (.iload_n 2, 1) := by decide +kernel
theorem dX12_readsLine_2 : decode cX12_readsLine 2 = .ok (.aload_n 0, 1) := by decide +kernel
theorem dX12_readsLine_3 : decode cX12_readsLine 3 = .ok (.iconst 0, 1) := by decide +kernel
theorem dX12_readsLine_4 : decode cX12_readsLine 4 = .ok (.aload_n 0, 1) := by decide +kernel
theorem dX12_readsLine_5 : decode cX12_readsLine 5 = .ok (.getfield 125, 3) := by decide +kernel
theorem dX12_readsLine_8 : decode cX12_readsLine 8 = .ok (.iconst 1, 1) := by decide +kernel
theorem dX12_readsLine_9 : decode cX12_readsLine 9 = .ok (.isub, 1) := by decide +kernel
theorem dX12_readsLine_10 : decode cX12_readsLine 10 = .ok (.invokevirtual 128, 3) := by decide +kernel
theorem dX12_readsLine_13 : decode cX12_readsLine 13 = .ok (.iastore, 1) := by decide +kernel
theorem dX12_readsLine_14 : decode cX12_readsLine 14 = .ok (.aload_n 1, 1) := by decide +kernel
theorem dX12_readsLine_15 : decode cX12_readsLine 15 = .ok (.iload_n 2, 1) := by decide +kernel
theorem dX12_readsLine_16 : decode cX12_readsLine 16 = .ok (.iconst 1, 1) := by decide +kernel
theorem dX12_readsLine_17 : decode cX12_readsLine 17 = .ok (.iadd, 1) := by decide +kernel
theorem dX12_readsLine_18 : decode cX12_readsLine 18 = .ok (.aload_n 0, 1) := by decide +kernel
theorem dX12_readsLine_19 : decode cX12_readsLine 19 = .ok (.iconst 0, 1) := by decide +kernel
theorem dX12_readsLine_20 : decode cX12_readsLine 20 = .ok (.bipush 9, 2) := by decide +kernel
theorem dX12_readsLine_22 : decode cX12_readsLine 22 = .ok (.invokevirtual 128, 3) := by decide +kernel
theorem dX12_readsLine_25 : decode cX12_readsLine 25 = .ok (.iastore, 1) := by decide +kernel
theorem dX12_readsLine_26 : decode cX12_readsLine 26 = .ok (.aload_n 1, 1) := by decide +kernel
theorem dX12_readsLine_27 : decode cX12_readsLine 27 = .ok (.iload_n 2, 1) := by decide +kernel
theorem dX12_readsLine_28 : decode cX12_readsLine 28 = .ok (.iconst 2, 1) := by decide +kernel
theorem dX12_readsLine_29 : decode cX12_readsLine 29 = .ok (.iadd, 1) := by decide +kernel
theorem dX12_readsLine_30 : decode cX12_readsLine 30 = .ok (.aload_n 0, 1) := by decide +kernel
theorem dX12_readsLine_31 : decode cX12_readsLine 31 = .ok (.iconst 0, 1) := by decide +kernel
theorem dX12_readsLine_32 : decode cX12_readsLine 32 = .ok (.bipush 16, 2) := by decide +kernel
theorem dX12_readsLine_34 : decode cX12_readsLine 34 = .ok (.invokevirtual 128, 3) := by decide +kernel
theorem dX12_readsLine_37 : decode cX12_readsLine 37 = .ok (.iastore, 1) := by decide +kernel
theorem dX12_readsLine_38 : decode cX12_readsLine 38 = .ok (.return_, 1) := by decide +kernel

theorem ms_draftLine {p : Program} {l : Launch} {e : Env} {R : Room} {s : State} {m : MethodId} {args : Array Value} {below : List Frame} {meth : Method} {c : Code} {D : gG} {A : Nat → Prop} {nL : Nat} {Q : State → Prop} {cells slots : Nat} {cc : ByteArray} {L : List (Nat × Value)} {pc : Nat} {stk : List Value} {β : Type} {r : β} {o : Nat → Nat} {cB cI cJ cZ : ClassId} {z : SM} (cx : gX p s m args meth c cc nL RX12 D (tyL cB cI cJ cZ) A) {i : Int32} {x : Int32} {kf : SM → Option β} (hf : ((aset 24 (mA z 20) i x).bind fun f => nm (mAs z 20 f) kf) = some r) (hd : decode cc pc = .ok (.iastore, 1)) (kk : ∀ y : SM, kf y = some r → gW p l e R s m args below meth c D A nL Q cells slots (wX12 o cB cI cJ cZ y) L (pc + 1) stk) : gW p l e R s m args below meth c D A nL Q cells slots (wX12 o cB cI cJ cZ z) L pc (.int x :: .int i :: .ref (o 6) :: stk) :=
  g_iast cx 6 1 (ws' := fun f => wX12 o cB cI cJ cZ (mAs z 20 f)) hf rfl rfl (fun _ => rfl) hd (fun _ hf => kk _ hf)
def F_X12_readsLine_draftLine (s_o : SM) (x2 : Int32) : Option (SM) := (F_X12_number s_o 0 ((mI s_o 16) - 1)).bind fun q_1 => (aset 24 (mA q_1.2 20) x2 q_1.1).bind fun f_2 => nm (mAs q_1.2 20 f_2) fun s_o_3 => (F_X12_number s_o_3 0 9).bind fun q_4 => (aset 24 (mA q_4.2 20) (x2 + 1) q_4.1).bind fun f_5 => nm (mAs q_4.2 20 f_5) fun s_o_6 => (F_X12_number s_o_6 0 16).bind fun q_7 => (aset 24 (mA q_7.2 20) (x2 + 2) q_7.1).bind fun f_8 => nm (mAs q_7.2 20 f_8) fun s_o_9 => some (s_o_9)

abbrev rm_X12_readsLine_draftLine : Room := { frames := 3, cells := 0, slots := 0, locals := 66 }
set_option maxHeartbeats 4000000 in
set_option maxRecDepth 100000 in
theorem c_X12_readsLine_draftLine (l : Launch) (D : gG) (cB cI cJ cZ : ClassId) (o : Nat → Nat) (s_o : SM) (x2 : Int32) (r : SM) (hf : F_X12_readsLine_draftLine s_o x2 = some r) : gM l D (tyL cB cI cJ cZ) yX12_readsLine cX12_readsLine 3 none rm_X12_readsLine_draftLine [.ref (o 0), .ref (o 6), .int x2] (wX12 o cB cI cJ cZ s_o) none (wX12 o cB cI cJ cZ r) := by
  refine met_of (by decide) (Nat.le_of_ble_eq_true rfl) ?_
  intro p e s m args below meth c A cx hr hA
  show gW p l e rm_X12_readsLine_draftLine s m args below meth c D A 3 _ 0 0 _ [(0, .ref (o 0)), (1, .ref (o 6)), (2, .int x2)] 0 []
  rw [F_X12_readsLine_draftLine] at hf
  refine g_aln cx 1 dX12_readsLine_0 rfl ?_
  refine g_iln cx 2 dX12_readsLine_1 rfl ?_
  refine g_aln cx 0 dX12_readsLine_2 rfl ?_
  refine g_ic cx dX12_readsLine_3 k_ic0 ?_
  refine g_aln cx 0 dX12_readsLine_4 rfl ?_
  refine mg_draftWords cx dX12_readsLine_5 ?_
  refine g_ic cx dX12_readsLine_8 k_ic1 ?_
  refine g_isub cx dX12_readsLine_9 ?_
  refine ob hf (fun q_1 hq_1 hf => ?_)
  refine g_callVFi cx lk_RX12_128 (c_X12_number l D cB cI cJ cZ o s_o 0 ((mI s_o 16) - 1) q_1 hq_1) rfl (ci := 10) (q1 := 0) rfl rfl rfl (Nat.le_of_ble_eq_true rfl) ⟨rfl, rfl, Nat.le_of_ble_eq_true rfl, Nat.le_of_ble_eq_true rfl⟩ dX12_readsLine_10 ?_
  refine ms_draftLine cx hf dX12_readsLine_13 (fun s_o_3 hf => ?_)
  refine g_aln cx 1 dX12_readsLine_14 rfl ?_
  refine g_iln cx 2 dX12_readsLine_15 rfl ?_
  refine g_ic cx dX12_readsLine_16 k_ic1 ?_
  refine g_iadd cx dX12_readsLine_17 ?_
  refine g_aln cx 0 dX12_readsLine_18 rfl ?_
  refine g_ic cx dX12_readsLine_19 k_ic0 ?_
  refine g_bp cx dX12_readsLine_20 k_bp9 ?_
  refine ob hf (fun q_4 hq_4 hf => ?_)
  refine g_callVFi cx lk_RX12_128 (c_X12_number l D cB cI cJ cZ o s_o_3 0 9 q_4 hq_4) rfl (ci := 10) (q1 := 0) rfl rfl rfl (Nat.le_of_ble_eq_true rfl) ⟨rfl, rfl, Nat.le_of_ble_eq_true rfl, Nat.le_of_ble_eq_true rfl⟩ dX12_readsLine_22 ?_
  refine ms_draftLine cx hf dX12_readsLine_25 (fun s_o_6 hf => ?_)
  refine g_aln cx 1 dX12_readsLine_26 rfl ?_
  refine g_iln cx 2 dX12_readsLine_27 rfl ?_
  refine g_ic cx dX12_readsLine_28 k_ic2 ?_
  refine g_iadd cx dX12_readsLine_29 ?_
  refine g_aln cx 0 dX12_readsLine_30 rfl ?_
  refine g_ic cx dX12_readsLine_31 k_ic0 ?_
  refine g_bp cx dX12_readsLine_32 k_bp16 ?_
  refine ob hf (fun q_7 hq_7 hf => ?_)
  refine g_callVFi cx lk_RX12_128 (c_X12_number l D cB cI cJ cZ o s_o_6 0 16 q_7 hq_7) rfl (ci := 10) (q1 := 0) rfl rfl rfl (Nat.le_of_ble_eq_true rfl) ⟨rfl, rfl, Nat.le_of_ble_eq_true rfl, Nat.le_of_ble_eq_true rfl⟩ dX12_readsLine_34 ?_
  refine ms_draftLine cx hf dX12_readsLine_37 (fun s_o_9 hf => ?_)
  exact g_vret (ovf := fun (r : SM) => none) (wf := fun (r : SM) => (wX12 o cB cI cJ cZ r)) cx hA hr hf rfl rfl dX12_readsLine_38

theorem ms_stock {p : Program} {l : Launch} {e : Env} {R : Room} {s : State} {m : MethodId} {args : Array Value} {below : List Frame} {meth : Method} {c : Code} {D : gG} {A : Nat → Prop} {nL : Nat} {Q : State → Prop} {cells slots : Nat} {cc : ByteArray} {L : List (Nat × Value)} {pc : Nat} {stk : List Value} {β : Type} {r : β} {o : Nat → Nat} {cB cI cJ cZ : ClassId} {z : SM} (cx : gX p s m args meth c cc nL RX12 D (tyL cB cI cJ cZ) A) {i : Int32} {x : Int32} {kf : SM → Option β} (hf : ((aset 36 (mA z 12) i x).bind fun f => nm (mAs z 12 f) kf) = some r) (hd : decode cc pc = .ok (.iastore, 1)) (kk : ∀ y : SM, kf y = some r → gW p l e R s m args below meth c D A nL Q cells slots (wX12 o cB cI cJ cZ y) L (pc + 1) stk) : gW p l e R s m args below meth c D A nL Q cells slots (wX12 o cB cI cJ cZ z) L pc (.int x :: .int i :: .ref (o 5) :: stk) :=
  g_iast cx 5 1 (ws' := fun f => wX12 o cB cI cJ cZ (mAs z 12 f)) hf rfl rfl (fun _ => rfl) hd (fun _ hf => kk _ hf)
def F_X12_readsLine_stock (s_o : SM) (x2 : Int32) : Option (SM) := (F_X12_number s_o 0 ((mI s_o 16) - 1)).bind fun q_1 => (aset 36 (mA q_1.2 12) x2 q_1.1).bind fun f_2 => nm (mAs q_1.2 12 f_2) fun s_o_3 => (F_X12_number s_o_3 0 9).bind fun q_4 => (aset 36 (mA q_4.2 12) (x2 + 1) q_4.1).bind fun f_5 => nm (mAs q_4.2 12 f_5) fun s_o_6 => (F_X12_number s_o_6 0 16).bind fun q_7 => (aset 36 (mA q_7.2 12) (x2 + 2) q_7.1).bind fun f_8 => nm (mAs q_7.2 12 f_8) fun s_o_9 => some (s_o_9)

abbrev rm_X12_readsLine_stock : Room := { frames := 3, cells := 0, slots := 0, locals := 66 }
set_option maxHeartbeats 4000000 in
set_option maxRecDepth 100000 in
theorem c_X12_readsLine_stock (l : Launch) (D : gG) (cB cI cJ cZ : ClassId) (o : Nat → Nat) (s_o : SM) (x2 : Int32) (r : SM) (hf : F_X12_readsLine_stock s_o x2 = some r) : gM l D (tyL cB cI cJ cZ) yX12_readsLine cX12_readsLine 3 none rm_X12_readsLine_stock [.ref (o 0), .ref (o 5), .int x2] (wX12 o cB cI cJ cZ s_o) none (wX12 o cB cI cJ cZ r) := by
  refine met_of (by decide) (Nat.le_of_ble_eq_true rfl) ?_
  intro p e s m args below meth c A cx hr hA
  show gW p l e rm_X12_readsLine_stock s m args below meth c D A 3 _ 0 0 _ [(0, .ref (o 0)), (1, .ref (o 5)), (2, .int x2)] 0 []
  rw [F_X12_readsLine_stock] at hf
  refine g_aln cx 1 dX12_readsLine_0 rfl ?_
  refine g_iln cx 2 dX12_readsLine_1 rfl ?_
  refine g_aln cx 0 dX12_readsLine_2 rfl ?_
  refine g_ic cx dX12_readsLine_3 k_ic0 ?_
  refine g_aln cx 0 dX12_readsLine_4 rfl ?_
  refine mg_draftWords cx dX12_readsLine_5 ?_
  refine g_ic cx dX12_readsLine_8 k_ic1 ?_
  refine g_isub cx dX12_readsLine_9 ?_
  refine ob hf (fun q_1 hq_1 hf => ?_)
  refine g_callVFi cx lk_RX12_128 (c_X12_number l D cB cI cJ cZ o s_o 0 ((mI s_o 16) - 1) q_1 hq_1) rfl (ci := 10) (q1 := 0) rfl rfl rfl (Nat.le_of_ble_eq_true rfl) ⟨rfl, rfl, Nat.le_of_ble_eq_true rfl, Nat.le_of_ble_eq_true rfl⟩ dX12_readsLine_10 ?_
  refine ms_stock cx hf dX12_readsLine_13 (fun s_o_3 hf => ?_)
  refine g_aln cx 1 dX12_readsLine_14 rfl ?_
  refine g_iln cx 2 dX12_readsLine_15 rfl ?_
  refine g_ic cx dX12_readsLine_16 k_ic1 ?_
  refine g_iadd cx dX12_readsLine_17 ?_
  refine g_aln cx 0 dX12_readsLine_18 rfl ?_
  refine g_ic cx dX12_readsLine_19 k_ic0 ?_
  refine g_bp cx dX12_readsLine_20 k_bp9 ?_
  refine ob hf (fun q_4 hq_4 hf => ?_)
  refine g_callVFi cx lk_RX12_128 (c_X12_number l D cB cI cJ cZ o s_o_3 0 9 q_4 hq_4) rfl (ci := 10) (q1 := 0) rfl rfl rfl (Nat.le_of_ble_eq_true rfl) ⟨rfl, rfl, Nat.le_of_ble_eq_true rfl, Nat.le_of_ble_eq_true rfl⟩ dX12_readsLine_22 ?_
  refine ms_stock cx hf dX12_readsLine_25 (fun s_o_6 hf => ?_)
  refine g_aln cx 1 dX12_readsLine_26 rfl ?_
  refine g_iln cx 2 dX12_readsLine_27 rfl ?_
  refine g_ic cx dX12_readsLine_28 k_ic2 ?_
  refine g_iadd cx dX12_readsLine_29 ?_
  refine g_aln cx 0 dX12_readsLine_30 rfl ?_
  refine g_ic cx dX12_readsLine_31 k_ic0 ?_
  refine g_bp cx dX12_readsLine_32 k_bp16 ?_
  refine ob hf (fun q_7 hq_7 hf => ?_)
  refine g_callVFi cx lk_RX12_128 (c_X12_number l D cB cI cJ cZ o s_o_6 0 16 q_7 hq_7) rfl (ci := 10) (q1 := 0) rfl rfl rfl (Nat.le_of_ble_eq_true rfl) ⟨rfl, rfl, Nat.le_of_ble_eq_true rfl, Nat.le_of_ble_eq_true rfl⟩ dX12_readsLine_34 ?_
  refine ms_stock cx hf dX12_readsLine_37 (fun s_o_9 hf => ?_)
  exact g_vret (ovf := fun (r : SM) => none) (wf := fun (r : SM) => (wX12 o cB cI cJ cZ r)) cx hA hr hf rfl rfl dX12_readsLine_38
theorem dX12_readsItem_0 : decode cX12_readsItem 0 = .ok (.iload_n 1, 1) := by decide +kernel
theorem dX12_readsItem_1 : decode cX12_readsItem 1 = .ok (.ifCond .ne 10, 3) := by decide +kernel
theorem dX12_readsItem_4 : decode cX12_readsItem 4 = .ok (.aload_n 0, 1) := by decide +kernel
theorem dX12_readsItem_5 : decode cX12_readsItem 5 = .ok (.invokevirtual 139, 3) := by decide +kernel
theorem dX12_readsItem_8 : decode cX12_readsItem 8 = .ok (.goto 86, 3) := by decide +kernel
theorem dX12_readsItem_11 : decode cX12_readsItem 11 = .ok (.iload_n 1, 1) := by decide +kernel
theorem dX12_readsItem_12 : decode cX12_readsItem 12 = .ok (.iconst 1, 1) := by decide +kernel
theorem dX12_readsItem_13 : decode cX12_readsItem 13 = .ok (.if_icmp .ne 10, 3) := by decide +kernel
theorem dX12_readsItem_16 : decode cX12_readsItem 16 = .ok (.aload_n 0, 1) := by decide +kernel
theorem dX12_readsItem_17 : decode cX12_readsItem 17 = .ok (.invokevirtual 142, 3) := by decide +kernel
theorem dX12_readsItem_20 : decode cX12_readsItem 20 = .ok (.goto 74, 3) := by decide +kernel
theorem dX12_readsItem_23 : decode cX12_readsItem 23 = .ok (.iload_n 1, 1) := by decide +kernel
theorem dX12_readsItem_24 : decode cX12_readsItem 24 = .ok (.iconst 2, 1) := by decide +kernel
theorem dX12_readsItem_25 : decode cX12_readsItem 25 = .ok (.if_icmp .ne 10, 3) := by decide +kernel
theorem dX12_readsItem_28 : decode cX12_readsItem 28 = .ok (.aload_n 0, 1) := by decide +kernel
theorem dX12_readsItem_29 : decode cX12_readsItem 29 = .ok (.invokevirtual 145, 3) := by decide +kernel
theorem dX12_readsItem_32 : decode cX12_readsItem 32 = .ok (.goto 62, 3) := by decide +kernel
theorem dX12_readsItem_35 : decode cX12_readsItem 35 = .ok (.iload_n 1, 1) := by decide +kernel
theorem dX12_readsItem_36 : decode cX12_readsItem 36 = .ok (.iconst 3, 1) := by decide +kernel
theorem dX12_readsItem_37 : decode cX12_readsItem 37 = .ok (.if_icmp .ne 30, 3) := by decide +kernel
theorem dX12_readsItem_40 : decode cX12_readsItem 40 = .ok (.aload_n 0, 1) := by decide +kernel
theorem dX12_readsItem_41 : decode cX12_readsItem 41 = .ok (.aload_n 0, 1) := by decide +kernel
theorem dX12_readsItem_42 : decode cX12_readsItem 42 = .ok (.getfield 25, 3) := by decide +kernel
theorem dX12_readsItem_45 : decode cX12_readsItem 45 = .ok (.iconst 3, 1) := by decide +kernel
theorem dX12_readsItem_46 : decode cX12_readsItem 46 = .ok (.aload_n 0, 1) := by decide +kernel
theorem dX12_readsItem_47 : decode cX12_readsItem 47 = .ok (.getfield 148, 3) := by decide +kernel
theorem dX12_readsItem_50 : decode cX12_readsItem 50 = .ok (.imul, 1) := by decide +kernel
theorem dX12_readsItem_51 : decode cX12_readsItem 51 = .ok (.invokevirtual 151, 3) := by decide +kernel
theorem dX12_readsItem_54 : decode cX12_readsItem 54 = .ok (.aload_n 0, 1) := by decide +kernel
theorem dX12_readsItem_55 : decode cX12_readsItem 55 = .ok (.dup, 1) := by decide +kernel
theorem dX12_readsItem_56 : decode cX12_readsItem 56 = .ok (.getfield 148, 3) := by decide +kernel
theorem dX12_readsItem_59 : decode cX12_readsItem 59 = .ok (.iconst 1, 1) := by decide +kernel
theorem dX12_readsItem_60 : decode cX12_readsItem 60 = .ok (.iadd, 1) := by decide +kernel
theorem dX12_readsItem_61 : decode cX12_readsItem 61 = .ok (.putfield 148, 3) := by decide +kernel
theorem dX12_readsItem_64 : decode cX12_readsItem 64 = .ok (.goto 30, 3) := by decide +kernel
theorem dX12_readsItem_67 : decode cX12_readsItem 67 = .ok (.aload_n 0, 1) := by decide +kernel
theorem dX12_readsItem_68 : decode cX12_readsItem 68 = .ok (.aload_n 0, 1) := by decide +kernel
theorem dX12_readsItem_69 : decode cX12_readsItem 69 = .ok (.getfield 22, 3) := by decide +kernel
theorem dX12_readsItem_72 : decode cX12_readsItem 72 = .ok (.bipush 18, 2) := by decide +kernel
theorem dX12_readsItem_74 : decode cX12_readsItem 74 = .ok (.iconst 3, 1) := by decide +kernel
theorem dX12_readsItem_75 : decode cX12_readsItem 75 = .ok (.aload_n 0, 1) := by decide +kernel
theorem dX12_readsItem_76 : decode cX12_readsItem 76 = .ok (.getfield 155, 3) := by decide +kernel
theorem dX12_readsItem_79 : decode cX12_readsItem 79 = .ok (.imul, 1) := by decide +kernel
theorem dX12_readsItem_80 : decode cX12_readsItem 80 = .ok (.iadd, 1) := by decide +kernel
theorem dX12_readsItem_81 : decode cX12_readsItem 81 = .ok (.invokevirtual 151, 3) := by decide +kernel
theorem dX12_readsItem_84 : decode cX12_readsItem 84 = .ok (.aload_n 0, 1) := by decide +kernel
theorem dX12_readsItem_85 : decode cX12_readsItem 85 = .ok (.dup, 1) := by decide +kernel
theorem dX12_readsItem_86 : decode cX12_readsItem 86 = .ok (.getfield 155, 3) := by decide +kernel
theorem dX12_readsItem_89 : decode cX12_readsItem 89 = .ok (.iconst 1, 1) := by decide +kernel
theorem dX12_readsItem_90 : decode cX12_readsItem 90 = .ok (.iadd, 1) := by decide +kernel
theorem dX12_readsItem_91 : decode cX12_readsItem 91 = .ok (.putfield 155, 3) := by decide +kernel
theorem dX12_readsItem_94 : decode cX12_readsItem 94 = .ok (.return_, 1) := by decide +kernel
theorem q0_34 : Cond.selects RX12 yX12_readsWord yX12_readsWord ∈ TT := tq0 34 rfl rfl
theorem q0_36 : Cond.selects RX12 yX12_readsForm yX12_readsForm ∈ TT := tq0 36 rfl rfl
theorem q0_38 : Cond.selects RX12 yX12_readsMetre yX12_readsMetre ∈ TT := tq0 38 rfl rfl
theorem q0_39 : Cond.selects RX12 yX12_readsLine yX12_readsLine ∈ TT := tq0 39 rfl rfl
theorem q4_235 : Cond.fieldLink RX12 22 "RhymeLawModel" "stock" "[I" ∈ TT := tq4 235 rfl rfl
theorem q5_1 : Cond.fieldLink RX12 155 "RhymeLawModel" "draftStocks" "I" ∈ TT := tq5 1 rfl rfl
theorem q5_2 : Cond.fieldLink RX12 148 "RhymeLawModel" "draftLines" "I" ∈ TT := tq5 2 rfl rfl
theorem q5_3 : Cond.fieldLink RX12 25 "RhymeLawModel" "draftLine" "[I" ∈ TT := tq5 3 rfl rfl
theorem q5_143 : Cond.methodLink RX12 139 yX12_readsWord ∈ TT := tq5 143 rfl rfl
theorem q5_145 : Cond.instanceMethod yX12_readsWord ∈ TT := tq5 145 rfl rfl
theorem q5_146 : Cond.code yX12_readsWord cX12_readsWord 2 none ∈ TT := tq5 146 rfl rfl
theorem q5_151 : Cond.methodLink RX12 142 yX12_readsForm ∈ TT := tq5 151 rfl rfl
theorem q5_153 : Cond.instanceMethod yX12_readsForm ∈ TT := tq5 153 rfl rfl
theorem q5_154 : Cond.code yX12_readsForm cX12_readsForm 3 none ∈ TT := tq5 154 rfl rfl
theorem q5_159 : Cond.methodLink RX12 145 yX12_readsMetre ∈ TT := tq5 159 rfl rfl
theorem q5_161 : Cond.instanceMethod yX12_readsMetre ∈ TT := tq5 161 rfl rfl
theorem q5_162 : Cond.code yX12_readsMetre cX12_readsMetre 3 none ∈ TT := tq5 162 rfl rfl
theorem q5_163 : Cond.methodLink RX12 151 yX12_readsLine ∈ TT := tq5 163 rfl rfl
theorem q5_165 : Cond.instanceMethod yX12_readsLine ∈ TT := tq5 165 rfl rfl
theorem q5_166 : Cond.code yX12_readsLine cX12_readsLine 3 none ∈ TT := tq5 166 rfl rfl
theorem fg_RX12_22 {p : Program} {l : Launch} {e : Env} {R : Room} {s : State} {m : MethodId} {args : Array Value} {below : List Frame} {meth : Method} {c : Code} {D : gG} {tys : List (ClassId × FieldType)} {A : Nat → Prop} {nL : Nat} {Q : State → Prop} {cells slots : Nat} {cc : ByteArray} {ws : va_W} {L : List (Nat × Value)} {pc : Nat} {stk : List Value} (cx : gX p s m args meth c cc nL RX12 D tys A) {a : Nat} {fs : List Value} {v : Value} (q0 : Nat) (he : ws[q0]? = some (a, .inr (10, fs))) (hv : fs[12]? = some v) (hd : decode cc pc = .ok (.getfield 22, 3)) (kk : gW p l e R s m args below meth c D A nL Q cells slots ws L (pc + 3) (v :: stk)) : gW p l e R s m args below meth c D A nL Q cells slots ws L pc (.ref a :: stk) :=
  g_get cx (C := RX12) (T := TX12) (N := 38) inT12 rfl 12 (Nat.le_of_ble_eq_true rfl) q4_235 rfl q0 he hv hd kk
theorem mg_stock {p : Program} {l : Launch} {e : Env} {R : Room} {s : State} {m : MethodId} {args : Array Value} {below : List Frame} {meth : Method} {c : Code} {D : gG} {A : Nat → Prop} {nL : Nat} {Q : State → Prop} {cells slots : Nat} {cc : ByteArray} {L : List (Nat × Value)} {pc : Nat} {stk : List Value} {o : Nat → Nat} {cB cI cJ cZ : ClassId} {z : SM} (cx : gX p s m args meth c cc nL RX12 D (tyL cB cI cJ cZ) A) (hd : decode cc pc = .ok (.getfield 22, 3)) (kk : gW p l e R s m args below meth c D A nL Q cells slots (wX12 o cB cI cJ cZ z) L (pc + 3) (.ref (o 5) :: stk)) : gW p l e R s m args below meth c D A nL Q cells slots (wX12 o cB cI cJ cZ z) L pc (.ref (o 0) :: stk) :=
  fg_RX12_22 cx 0 rfl rfl hd kk
theorem fg_RX12_155 {p : Program} {l : Launch} {e : Env} {R : Room} {s : State} {m : MethodId} {args : Array Value} {below : List Frame} {meth : Method} {c : Code} {D : gG} {tys : List (ClassId × FieldType)} {A : Nat → Prop} {nL : Nat} {Q : State → Prop} {cells slots : Nat} {cc : ByteArray} {ws : va_W} {L : List (Nat × Value)} {pc : Nat} {stk : List Value} (cx : gX p s m args meth c cc nL RX12 D tys A) {a : Nat} {fs : List Value} {v : Value} (q0 : Nat) (he : ws[q0]? = some (a, .inr (10, fs))) (hv : fs[18]? = some v) (hd : decode cc pc = .ok (.getfield 155, 3)) (kk : gW p l e R s m args below meth c D A nL Q cells slots ws L (pc + 3) (v :: stk)) : gW p l e R s m args below meth c D A nL Q cells slots ws L pc (.ref a :: stk) :=
  g_get cx (C := RX12) (T := TX12) (N := 38) inT12 rfl 18 (Nat.le_of_ble_eq_true rfl) q5_1 rfl q0 he hv hd kk
theorem mg_draftStocks {p : Program} {l : Launch} {e : Env} {R : Room} {s : State} {m : MethodId} {args : Array Value} {below : List Frame} {meth : Method} {c : Code} {D : gG} {A : Nat → Prop} {nL : Nat} {Q : State → Prop} {cells slots : Nat} {cc : ByteArray} {L : List (Nat × Value)} {pc : Nat} {stk : List Value} {o : Nat → Nat} {cB cI cJ cZ : ClassId} {z : SM} (cx : gX p s m args meth c cc nL RX12 D (tyL cB cI cJ cZ) A) (hd : decode cc pc = .ok (.getfield 155, 3)) (kk : gW p l e R s m args below meth c D A nL Q cells slots (wX12 o cB cI cJ cZ z) L (pc + 3) (.int (mI z 18) :: stk)) : gW p l e R s m args below meth c D A nL Q cells slots (wX12 o cB cI cJ cZ z) L pc (.ref (o 0) :: stk) :=
  fg_RX12_155 cx 0 rfl rfl hd kk
theorem lk_RX12_151 : vlk RX12 151 yX12_readsLine cX12_readsLine 3 none 2 := ⟨List.forall_mem_cons.mpr ⟨q5_163, List.forall_mem_cons.mpr ⟨q5_165, List.forall_mem_cons.mpr ⟨q0_39, List.forall_mem_cons.mpr ⟨q1_12, fun _ h => absurd h List.not_mem_nil⟩⟩⟩⟩, q5_166, by decide, by decide, by decide +kernel⟩
theorem fp_RX12_155 {p : Program} {l : Launch} {e : Env} {R : Room} {s : State} {m : MethodId} {args : Array Value} {below : List Frame} {meth : Method} {c : Code} {D : gG} {tys : List (ClassId × FieldType)} {A : Nat → Prop} {nL : Nat} {Q : State → Prop} {cells slots : Nat} {cc : ByteArray} {ws : va_W} {L : List (Nat × Value)} {pc : Nat} {stk : List Value} (cx : gX p s m args meth c cc nL RX12 D tys A) {a : Nat} {fs : List Value} {x : Int32} (q0 : Nat) (he : ws[q0]? = some (a, .inr (10, fs))) (hl : 18 < fs.length) {ws' : va_W} (hw : ws.set q0 (a, .inr (10, fs.set 18 (.int x))) = ws') (hd : decode cc pc = .ok (.putfield 155, 3)) (kk : gW p l e R s m args below meth c D A nL Q cells slots ws' L (pc + 3) stk) : gW p l e R s m args below meth c D A nL Q cells slots ws L pc (.int x :: .ref a :: stk) :=
  g_put cx (C := RX12) (T := TX12) (N := 38) (ty0 := tyX12) (ty := .int) inT12 tyX12_ok nmX12 rfl 18 (Nat.le_of_ble_eq_true rfl) q5_1 rfl rfl rfl rfl rfl q0 he hl hw hd kk
theorem mp_draftStocks {p : Program} {l : Launch} {e : Env} {R : Room} {s : State} {m : MethodId} {args : Array Value} {below : List Frame} {meth : Method} {c : Code} {D : gG} {A : Nat → Prop} {nL : Nat} {Q : State → Prop} {cells slots : Nat} {cc : ByteArray} {L : List (Nat × Value)} {pc : Nat} {stk : List Value} {β : Type} {r : β} {o : Nat → Nat} {cB cI cJ cZ : ClassId} {z : SM} (cx : gX p s m args meth c cc nL RX12 D (tyL cB cI cJ cZ) A) {x : Int32} {kf : SM → Option β} (hf : nm (mIs z 18 x) kf = some r) (hd : decode cc pc = .ok (.putfield 155, 3)) (kk : ∀ y : SM, kf y = some r → gW p l e R s m args below meth c D A nL Q cells slots (wX12 o cB cI cJ cZ y) L (pc + 3) stk) : gW p l e R s m args below meth c D A nL Q cells slots (wX12 o cB cI cJ cZ z) L pc (.int x :: .ref (o 0) :: stk) :=
  fp_RX12_155 cx 0 rfl (Nat.le_of_ble_eq_true rfl) (ws' := wX12 o cB cI cJ cZ (mIs z 18 x)) rfl hd (kk _ hf)
theorem fg_RX12_25 {p : Program} {l : Launch} {e : Env} {R : Room} {s : State} {m : MethodId} {args : Array Value} {below : List Frame} {meth : Method} {c : Code} {D : gG} {tys : List (ClassId × FieldType)} {A : Nat → Prop} {nL : Nat} {Q : State → Prop} {cells slots : Nat} {cc : ByteArray} {ws : va_W} {L : List (Nat × Value)} {pc : Nat} {stk : List Value} (cx : gX p s m args meth c cc nL RX12 D tys A) {a : Nat} {fs : List Value} {v : Value} (q0 : Nat) (he : ws[q0]? = some (a, .inr (10, fs))) (hv : fs[20]? = some v) (hd : decode cc pc = .ok (.getfield 25, 3)) (kk : gW p l e R s m args below meth c D A nL Q cells slots ws L (pc + 3) (v :: stk)) : gW p l e R s m args below meth c D A nL Q cells slots ws L pc (.ref a :: stk) :=
  g_get cx (C := RX12) (T := TX12) (N := 38) inT12 rfl 20 (Nat.le_of_ble_eq_true rfl) q5_3 rfl q0 he hv hd kk
theorem mg_draftLine {p : Program} {l : Launch} {e : Env} {R : Room} {s : State} {m : MethodId} {args : Array Value} {below : List Frame} {meth : Method} {c : Code} {D : gG} {A : Nat → Prop} {nL : Nat} {Q : State → Prop} {cells slots : Nat} {cc : ByteArray} {L : List (Nat × Value)} {pc : Nat} {stk : List Value} {o : Nat → Nat} {cB cI cJ cZ : ClassId} {z : SM} (cx : gX p s m args meth c cc nL RX12 D (tyL cB cI cJ cZ) A) (hd : decode cc pc = .ok (.getfield 25, 3)) (kk : gW p l e R s m args below meth c D A nL Q cells slots (wX12 o cB cI cJ cZ z) L (pc + 3) (.ref (o 6) :: stk)) : gW p l e R s m args below meth c D A nL Q cells slots (wX12 o cB cI cJ cZ z) L pc (.ref (o 0) :: stk) :=
  fg_RX12_25 cx 0 rfl rfl hd kk
theorem fg_RX12_148 {p : Program} {l : Launch} {e : Env} {R : Room} {s : State} {m : MethodId} {args : Array Value} {below : List Frame} {meth : Method} {c : Code} {D : gG} {tys : List (ClassId × FieldType)} {A : Nat → Prop} {nL : Nat} {Q : State → Prop} {cells slots : Nat} {cc : ByteArray} {ws : va_W} {L : List (Nat × Value)} {pc : Nat} {stk : List Value} (cx : gX p s m args meth c cc nL RX12 D tys A) {a : Nat} {fs : List Value} {v : Value} (q0 : Nat) (he : ws[q0]? = some (a, .inr (10, fs))) (hv : fs[19]? = some v) (hd : decode cc pc = .ok (.getfield 148, 3)) (kk : gW p l e R s m args below meth c D A nL Q cells slots ws L (pc + 3) (v :: stk)) : gW p l e R s m args below meth c D A nL Q cells slots ws L pc (.ref a :: stk) :=
  g_get cx (C := RX12) (T := TX12) (N := 38) inT12 rfl 19 (Nat.le_of_ble_eq_true rfl) q5_2 rfl q0 he hv hd kk
theorem mg_draftLines {p : Program} {l : Launch} {e : Env} {R : Room} {s : State} {m : MethodId} {args : Array Value} {below : List Frame} {meth : Method} {c : Code} {D : gG} {A : Nat → Prop} {nL : Nat} {Q : State → Prop} {cells slots : Nat} {cc : ByteArray} {L : List (Nat × Value)} {pc : Nat} {stk : List Value} {o : Nat → Nat} {cB cI cJ cZ : ClassId} {z : SM} (cx : gX p s m args meth c cc nL RX12 D (tyL cB cI cJ cZ) A) (hd : decode cc pc = .ok (.getfield 148, 3)) (kk : gW p l e R s m args below meth c D A nL Q cells slots (wX12 o cB cI cJ cZ z) L (pc + 3) (.int (mI z 19) :: stk)) : gW p l e R s m args below meth c D A nL Q cells slots (wX12 o cB cI cJ cZ z) L pc (.ref (o 0) :: stk) :=
  fg_RX12_148 cx 0 rfl rfl hd kk
theorem fp_RX12_148 {p : Program} {l : Launch} {e : Env} {R : Room} {s : State} {m : MethodId} {args : Array Value} {below : List Frame} {meth : Method} {c : Code} {D : gG} {tys : List (ClassId × FieldType)} {A : Nat → Prop} {nL : Nat} {Q : State → Prop} {cells slots : Nat} {cc : ByteArray} {ws : va_W} {L : List (Nat × Value)} {pc : Nat} {stk : List Value} (cx : gX p s m args meth c cc nL RX12 D tys A) {a : Nat} {fs : List Value} {x : Int32} (q0 : Nat) (he : ws[q0]? = some (a, .inr (10, fs))) (hl : 19 < fs.length) {ws' : va_W} (hw : ws.set q0 (a, .inr (10, fs.set 19 (.int x))) = ws') (hd : decode cc pc = .ok (.putfield 148, 3)) (kk : gW p l e R s m args below meth c D A nL Q cells slots ws' L (pc + 3) stk) : gW p l e R s m args below meth c D A nL Q cells slots ws L pc (.int x :: .ref a :: stk) :=
  g_put cx (C := RX12) (T := TX12) (N := 38) (ty0 := tyX12) (ty := .int) inT12 tyX12_ok nmX12 rfl 19 (Nat.le_of_ble_eq_true rfl) q5_2 rfl rfl rfl rfl rfl q0 he hl hw hd kk
theorem mp_draftLines {p : Program} {l : Launch} {e : Env} {R : Room} {s : State} {m : MethodId} {args : Array Value} {below : List Frame} {meth : Method} {c : Code} {D : gG} {A : Nat → Prop} {nL : Nat} {Q : State → Prop} {cells slots : Nat} {cc : ByteArray} {L : List (Nat × Value)} {pc : Nat} {stk : List Value} {β : Type} {r : β} {o : Nat → Nat} {cB cI cJ cZ : ClassId} {z : SM} (cx : gX p s m args meth c cc nL RX12 D (tyL cB cI cJ cZ) A) {x : Int32} {kf : SM → Option β} (hf : nm (mIs z 19 x) kf = some r) (hd : decode cc pc = .ok (.putfield 148, 3)) (kk : ∀ y : SM, kf y = some r → gW p l e R s m args below meth c D A nL Q cells slots (wX12 o cB cI cJ cZ y) L (pc + 3) stk) : gW p l e R s m args below meth c D A nL Q cells slots (wX12 o cB cI cJ cZ z) L pc (.int x :: .ref (o 0) :: stk) :=
  fp_RX12_148 cx 0 rfl (Nat.le_of_ble_eq_true rfl) (ws' := wX12 o cB cI cJ cZ (mIs z 19 x)) rfl hd (kk _ hf)
theorem lk_RX12_145 : vlk RX12 145 yX12_readsMetre cX12_readsMetre 3 none 0 := ⟨List.forall_mem_cons.mpr ⟨q5_159, List.forall_mem_cons.mpr ⟨q5_161, List.forall_mem_cons.mpr ⟨q0_38, List.forall_mem_cons.mpr ⟨q1_12, fun _ h => absurd h List.not_mem_nil⟩⟩⟩⟩, q5_162, by decide, by decide, by decide +kernel⟩
theorem lk_RX12_142 : vlk RX12 142 yX12_readsForm cX12_readsForm 3 none 0 := ⟨List.forall_mem_cons.mpr ⟨q5_151, List.forall_mem_cons.mpr ⟨q5_153, List.forall_mem_cons.mpr ⟨q0_36, List.forall_mem_cons.mpr ⟨q1_12, fun _ h => absurd h List.not_mem_nil⟩⟩⟩⟩, q5_154, by decide, by decide, by decide +kernel⟩
theorem lk_RX12_139 : vlk RX12 139 yX12_readsWord cX12_readsWord 2 none 0 := ⟨List.forall_mem_cons.mpr ⟨q5_143, List.forall_mem_cons.mpr ⟨q5_145, List.forall_mem_cons.mpr ⟨q0_34, List.forall_mem_cons.mpr ⟨q1_12, fun _ h => absurd h List.not_mem_nil⟩⟩⟩⟩, q5_146, by decide, by decide, by decide +kernel⟩
def F_X12_readsItem (s_o : SM) (x1 : Int32) : Option (SM) := (if x1 = 0 then (F_X12_readsWord s_o).bind fun q_7 => some (q_7) else (if x1 = 1 then (F_X12_readsForm s_o).bind fun q_6 => some (q_6) else (if x1 = 2 then (F_X12_readsMetre s_o).bind fun q_5 => some (q_5) else (if x1 = 3 then (F_X12_readsLine_draftLine s_o (3 * (mI s_o 19))).bind fun q_3 => nm (mIs q_3 19 ((mI q_3 19) + 1)) fun s_o_4 => some (s_o_4) else (F_X12_readsLine_stock s_o (18 + (3 * (mI s_o 18)))).bind fun q_1 => nm (mIs q_1 18 ((mI q_1 18) + 1)) fun s_o_2 => some (s_o_2)))))

abbrev rm_X12_readsItem : Room := { frames := 4, cells := 0, slots := 0, locals := 88 }
set_option maxHeartbeats 4000000 in
set_option maxRecDepth 100000 in
theorem c_X12_readsItem (l : Launch) (D : gG) (cB cI cJ cZ : ClassId) (o : Nat → Nat) (s_o : SM) (x1 : Int32) (r : SM) (hf : F_X12_readsItem s_o x1 = some r) : gM l D (tyL cB cI cJ cZ) yX12_readsItem cX12_readsItem 2 none rm_X12_readsItem [.ref (o 0), .int x1] (wX12 o cB cI cJ cZ s_o) none (wX12 o cB cI cJ cZ r) := by
  refine met_of (by decide) (Nat.le_of_ble_eq_true rfl) ?_
  intro p e s m args below meth c A cx hr hA
  show gW p l e rm_X12_readsItem s m args below meth c D A 2 _ 0 0 _ [(0, .ref (o 0)), (1, .int x1)] 0 []
  rw [F_X12_readsItem] at hf
  refine g_iln cx 1 dX12_readsItem_0 rfl ?_
  refine g_if_ne (tgt := 11) cx hf dX12_readsItem_1 rfl (fun hf => ?_) (fun hf => ?_)
  · refine g_iln cx 1 dX12_readsItem_11 rfl ?_
    refine g_ic cx dX12_readsItem_12 k_ic1 ?_
    refine g_ic_ne (tgt := 23) cx hf dX12_readsItem_13 rfl (fun hf => ?_) (fun hf => ?_)
    · refine g_iln cx 1 dX12_readsItem_23 rfl ?_
      refine g_ic cx dX12_readsItem_24 k_ic2 ?_
      refine g_ic_ne (tgt := 35) cx hf dX12_readsItem_25 rfl (fun hf => ?_) (fun hf => ?_)
      · refine g_iln cx 1 dX12_readsItem_35 rfl ?_
        refine g_ic cx dX12_readsItem_36 k_ic3 ?_
        refine g_ic_ne (tgt := 67) cx hf dX12_readsItem_37 rfl (fun hf => ?_) (fun hf => ?_)
        · refine g_aln cx 0 dX12_readsItem_67 rfl ?_
          refine g_aln cx 0 dX12_readsItem_68 rfl ?_
          refine mg_stock cx dX12_readsItem_69 ?_
          refine g_bp cx dX12_readsItem_72 k_bp18 ?_
          refine g_ic cx dX12_readsItem_74 k_ic3 ?_
          refine g_aln cx 0 dX12_readsItem_75 rfl ?_
          refine mg_draftStocks cx dX12_readsItem_76 ?_
          refine g_imul cx dX12_readsItem_79 ?_
          refine g_iadd cx dX12_readsItem_80 ?_
          refine ob hf (fun q_1 hq_1 hf => ?_)
          refine g_callVFv cx lk_RX12_151 (c_X12_readsLine_stock l D cB cI cJ cZ o s_o (18 + (3 * (mI s_o 18))) q_1 hq_1) rfl (ci := 10) (q1 := 0) rfl rfl rfl (Nat.le_of_ble_eq_true rfl) ⟨rfl, rfl, Nat.le_of_ble_eq_true rfl, Nat.le_of_ble_eq_true rfl⟩ dX12_readsItem_81 ?_
          refine g_aln cx 0 dX12_readsItem_84 rfl ?_
          refine g_dup cx dX12_readsItem_85 rfl ?_
          refine mg_draftStocks cx dX12_readsItem_86 ?_
          refine g_ic cx dX12_readsItem_89 k_ic1 ?_
          refine g_iadd cx dX12_readsItem_90 ?_
          refine mp_draftStocks cx hf dX12_readsItem_91 (fun s_o_2 hf => ?_)
          exact g_vret (ovf := fun (r : SM) => none) (wf := fun (r : SM) => (wX12 o cB cI cJ cZ r)) cx hA hr hf rfl rfl dX12_readsItem_94
        · refine g_aln cx 0 dX12_readsItem_40 rfl ?_
          refine g_aln cx 0 dX12_readsItem_41 rfl ?_
          refine mg_draftLine cx dX12_readsItem_42 ?_
          refine g_ic cx dX12_readsItem_45 k_ic3 ?_
          refine g_aln cx 0 dX12_readsItem_46 rfl ?_
          refine mg_draftLines cx dX12_readsItem_47 ?_
          refine g_imul cx dX12_readsItem_50 ?_
          refine ob hf (fun q_3 hq_3 hf => ?_)
          refine g_callVFv cx lk_RX12_151 (c_X12_readsLine_draftLine l D cB cI cJ cZ o s_o (3 * (mI s_o 19)) q_3 hq_3) rfl (ci := 10) (q1 := 0) rfl rfl rfl (Nat.le_of_ble_eq_true rfl) ⟨rfl, rfl, Nat.le_of_ble_eq_true rfl, Nat.le_of_ble_eq_true rfl⟩ dX12_readsItem_51 ?_
          refine g_aln cx 0 dX12_readsItem_54 rfl ?_
          refine g_dup cx dX12_readsItem_55 rfl ?_
          refine mg_draftLines cx dX12_readsItem_56 ?_
          refine g_ic cx dX12_readsItem_59 k_ic1 ?_
          refine g_iadd cx dX12_readsItem_60 ?_
          refine mp_draftLines cx hf dX12_readsItem_61 (fun s_o_4 hf => ?_)
          refine g_goto (tgt := 94) cx dX12_readsItem_64 rfl ?_
          exact g_vret (ovf := fun (r : SM) => none) (wf := fun (r : SM) => (wX12 o cB cI cJ cZ r)) cx hA hr hf rfl rfl dX12_readsItem_94
      · refine g_aln cx 0 dX12_readsItem_28 rfl ?_
        refine ob hf (fun q_5 hq_5 hf => ?_)
        refine g_callVFv cx lk_RX12_145 (c_X12_readsMetre l D cB cI cJ cZ o s_o q_5 hq_5) rfl (ci := 10) (q1 := 0) rfl rfl rfl (Nat.le_of_ble_eq_true rfl) ⟨rfl, rfl, Nat.le_of_ble_eq_true rfl, Nat.le_of_ble_eq_true rfl⟩ dX12_readsItem_29 ?_
        refine g_goto (tgt := 94) cx dX12_readsItem_32 rfl ?_
        exact g_vret (ovf := fun (r : SM) => none) (wf := fun (r : SM) => (wX12 o cB cI cJ cZ r)) cx hA hr hf rfl rfl dX12_readsItem_94
    · refine g_aln cx 0 dX12_readsItem_16 rfl ?_
      refine ob hf (fun q_6 hq_6 hf => ?_)
      refine g_callVFv cx lk_RX12_142 (c_X12_readsForm l D cB cI cJ cZ o s_o q_6 hq_6) rfl (ci := 10) (q1 := 0) rfl rfl rfl (Nat.le_of_ble_eq_true rfl) ⟨rfl, rfl, Nat.le_of_ble_eq_true rfl, Nat.le_of_ble_eq_true rfl⟩ dX12_readsItem_17 ?_
      refine g_goto (tgt := 94) cx dX12_readsItem_20 rfl ?_
      exact g_vret (ovf := fun (r : SM) => none) (wf := fun (r : SM) => (wX12 o cB cI cJ cZ r)) cx hA hr hf rfl rfl dX12_readsItem_94
  · refine g_aln cx 0 dX12_readsItem_4 rfl ?_
    refine ob hf (fun q_7 hq_7 hf => ?_)
    refine g_callVFv cx lk_RX12_139 (c_X12_readsWord l D cB cI cJ cZ o s_o q_7 hq_7) rfl (ci := 10) (q1 := 0) rfl rfl rfl (Nat.le_of_ble_eq_true rfl) ⟨rfl, rfl, Nat.le_of_ble_eq_true rfl, Nat.le_of_ble_eq_true rfl⟩ dX12_readsItem_5 ?_
    refine g_goto (tgt := 94) cx dX12_readsItem_8 rfl ?_
    exact g_vret (ovf := fun (r : SM) => none) (wf := fun (r : SM) => (wX12 o cB cI cJ cZ r)) cx hA hr hf rfl rfl dX12_readsItem_94
def tX12_read_26 : List Nat := 84 :: 27 :: 172 :: []
def tX12_read_25 : List Nat := 181 :: 0 :: 86 :: 42 :: 180 :: 0 :: 34 :: 3 :: 3 :: 84 :: 42 :: 180 :: 0 :: 34 :: 4 :: 3 :: tX12_read_26
def tX12_read_24 : List Nat := 155 :: 181 :: 0 :: 172 :: 42 :: 180 :: 0 :: 28 :: 3 :: 42 :: 180 :: 0 :: 148 :: 79 :: 42 :: 3 :: tX12_read_25
def tX12_read_23 : List Nat := 125 :: 181 :: 0 :: 166 :: 42 :: 42 :: 180 :: 0 :: 136 :: 181 :: 0 :: 169 :: 42 :: 42 :: 180 :: 0 :: tX12_read_24
def tX12_read_22 : List Nat := 180 :: 0 :: 25 :: 28 :: 46 :: 79 :: 132 :: 2 :: 1 :: 167 :: 255 :: 233 :: 42 :: 42 :: 180 :: 0 :: tX12_read_23
def tX12_read_21 : List Nat := 3 :: 61 :: 28 :: 16 :: 24 :: 162 :: 0 :: 23 :: 42 :: 180 :: 0 :: 28 :: 4 :: 28 :: 96 :: 42 :: tX12_read_22
def tX12_read_20 : List Nat := 42 :: 180 :: 0 :: 19 :: 16 :: 8 :: 28 :: 96 :: 46 :: 79 :: 132 :: 2 :: 1 :: 167 :: 255 :: 232 :: tX12_read_21
def tX12_read_19 : List Nat := 167 :: 255 :: 217 :: 3 :: 61 :: 28 :: 16 :: 8 :: 162 :: 0 :: 24 :: 42 :: 180 :: 0 :: 19 :: 28 :: tX12_read_20
def tX12_read_18 : List Nat := 0 :: 22 :: 28 :: 42 :: 180 :: 0 :: 22 :: 16 :: 18 :: 28 :: 96 :: 46 :: 79 :: 132 :: 2 :: 1 :: tX12_read_19
def tX12_read_17 : List Nat := 180 :: 0 :: 16 :: 28 :: 42 :: 180 :: 0 :: 16 :: 16 :: 18 :: 28 :: 96 :: 46 :: 79 :: 42 :: 180 :: tX12_read_18
def tX12_read_16 : List Nat := 79 :: 132 :: 2 :: 1 :: 167 :: 255 :: 232 :: 3 :: 61 :: 28 :: 16 :: 18 :: 162 :: 0 :: 39 :: 42 :: tX12_read_17
def tX12_read_15 : List Nat := 0 :: 24 :: 42 :: 180 :: 0 :: 13 :: 28 :: 42 :: 180 :: 0 :: 13 :: 16 :: 64 :: 28 :: 96 :: 46 :: tX12_read_16
def tX12_read_14 : List Nat := 0 :: 11 :: 16 :: 246 :: 42 :: 180 :: 0 :: 107 :: 100 :: 172 :: 3 :: 61 :: 28 :: 16 :: 64 :: 162 :: tX12_read_15
def tX12_read_13 : List Nat := 7 :: 42 :: 182 :: 0 :: 118 :: 132 :: 1 :: 1 :: 167 :: 255 :: 103 :: 42 :: 182 :: 0 :: 110 :: 154 :: tX12_read_14
def tX12_read_12 : List Nat := 0 :: 7 :: 4 :: 167 :: 0 :: 4 :: 3 :: 182 :: 0 :: 114 :: 42 :: 182 :: 0 :: 110 :: 153 :: 0 :: tX12_read_13
def tX12_read_11 : List Nat := 42 :: 182 :: 0 :: 118 :: 42 :: 28 :: 182 :: 0 :: 162 :: 42 :: 42 :: 180 :: 0 :: 101 :: 6 :: 160 :: tX12_read_12
def tX12_read_10 : List Nat := 7 :: 4 :: 167 :: 0 :: 4 :: 3 :: 182 :: 0 :: 114 :: 42 :: 182 :: 0 :: 110 :: 153 :: 0 :: 12 :: tX12_read_11
def tX12_read_9 : List Nat := 167 :: 0 :: 17 :: 28 :: 7 :: 160 :: 0 :: 16 :: 42 :: 180 :: 0 :: 155 :: 16 :: 6 :: 162 :: 0 :: tX12_read_10
def tX12_read_8 : List Nat := 0 :: 34 :: 28 :: 6 :: 160 :: 0 :: 15 :: 42 :: 180 :: 0 :: 148 :: 16 :: 8 :: 162 :: 0 :: 24 :: tX12_read_9
def tX12_read_7 : List Nat := 136 :: 5 :: 162 :: 0 :: 7 :: 4 :: 167 :: 0 :: 48 :: 3 :: 167 :: 0 :: 44 :: 28 :: 5 :: 159 :: tX12_read_8
def tX12_read_6 : List Nat := 4 :: 167 :: 0 :: 69 :: 3 :: 167 :: 0 :: 65 :: 28 :: 4 :: 160 :: 0 :: 19 :: 42 :: 180 :: 0 :: tX12_read_7
def tX12_read_5 : List Nat := 158 :: 61 :: 42 :: 28 :: 154 :: 0 :: 20 :: 42 :: 180 :: 0 :: 125 :: 16 :: 16 :: 162 :: 0 :: 7 :: tX12_read_6
def tX12_read_4 : List Nat := 182 :: 0 :: 110 :: 153 :: 0 :: 152 :: 42 :: 180 :: 0 :: 101 :: 153 :: 0 :: 145 :: 42 :: 182 :: 0 :: tX12_read_5
def tX12_read_3 : List Nat := 0 :: 19 :: 28 :: 3 :: 79 :: 132 :: 2 :: 1 :: 167 :: 255 :: 240 :: 42 :: 182 :: 0 :: 118 :: 42 :: tX12_read_4
def tX12_read_2 : List Nat := 42 :: 3 :: 181 :: 0 :: 155 :: 16 :: 8 :: 61 :: 28 :: 16 :: 16 :: 162 :: 0 :: 16 :: 42 :: 180 :: tX12_read_3
def tX12_read_1 : List Nat := 60 :: 42 :: 3 :: 181 :: 0 :: 125 :: 42 :: 3 :: 181 :: 0 :: 136 :: 42 :: 3 :: 181 :: 0 :: 148 :: tX12_read_2
def tX12_read_0 : List Nat := 42 :: 3 :: 181 :: 0 :: 78 :: 42 :: 2 :: 181 :: 0 :: 107 :: 42 :: 3 :: 181 :: 0 :: 91 :: 3 :: tX12_read_1
theorem tX12_readf_0 : (cX12_read.data.toList.map UInt8.toNat).drop 0 = tX12_read_0 := by decide +kernel
theorem tX12_readf_1 : (cX12_read.data.toList.map UInt8.toNat).drop 16 = tX12_read_1 := fd_next (k := 0) tX12_readf_0 rfl
theorem tX12_readf_2 : (cX12_read.data.toList.map UInt8.toNat).drop 32 = tX12_read_2 := fd_next (k := 16) tX12_readf_1 rfl
theorem tX12_readf_3 : (cX12_read.data.toList.map UInt8.toNat).drop 48 = tX12_read_3 := fd_next (k := 32) tX12_readf_2 rfl
theorem tX12_readf_4 : (cX12_read.data.toList.map UInt8.toNat).drop 64 = tX12_read_4 := fd_next (k := 48) tX12_readf_3 rfl
theorem tX12_readf_5 : (cX12_read.data.toList.map UInt8.toNat).drop 80 = tX12_read_5 := fd_next (k := 64) tX12_readf_4 rfl
theorem tX12_readf_6 : (cX12_read.data.toList.map UInt8.toNat).drop 96 = tX12_read_6 := fd_next (k := 80) tX12_readf_5 rfl
theorem tX12_readf_7 : (cX12_read.data.toList.map UInt8.toNat).drop 112 = tX12_read_7 := fd_next (k := 96) tX12_readf_6 rfl
theorem tX12_readf_8 : (cX12_read.data.toList.map UInt8.toNat).drop 128 = tX12_read_8 := fd_next (k := 112) tX12_readf_7 rfl
theorem tX12_readf_9 : (cX12_read.data.toList.map UInt8.toNat).drop 144 = tX12_read_9 := fd_next (k := 128) tX12_readf_8 rfl
theorem tX12_readf_10 : (cX12_read.data.toList.map UInt8.toNat).drop 160 = tX12_read_10 := fd_next (k := 144) tX12_readf_9 rfl
theorem tX12_readf_11 : (cX12_read.data.toList.map UInt8.toNat).drop 176 = tX12_read_11 := fd_next (k := 160) tX12_readf_10 rfl
theorem tX12_readf_12 : (cX12_read.data.toList.map UInt8.toNat).drop 192 = tX12_read_12 := fd_next (k := 176) tX12_readf_11 rfl
theorem tX12_readf_13 : (cX12_read.data.toList.map UInt8.toNat).drop 208 = tX12_read_13 := fd_next (k := 192) tX12_readf_12 rfl
theorem tX12_readf_14 : (cX12_read.data.toList.map UInt8.toNat).drop 224 = tX12_read_14 := fd_next (k := 208) tX12_readf_13 rfl
theorem tX12_readf_15 : (cX12_read.data.toList.map UInt8.toNat).drop 240 = tX12_read_15 := fd_next (k := 224) tX12_readf_14 rfl
theorem tX12_readf_16 : (cX12_read.data.toList.map UInt8.toNat).drop 256 = tX12_read_16 := fd_next (k := 240) tX12_readf_15 rfl
theorem tX12_readf_17 : (cX12_read.data.toList.map UInt8.toNat).drop 272 = tX12_read_17 := fd_next (k := 256) tX12_readf_16 rfl
theorem tX12_readf_18 : (cX12_read.data.toList.map UInt8.toNat).drop 288 = tX12_read_18 := fd_next (k := 272) tX12_readf_17 rfl
theorem tX12_readf_19 : (cX12_read.data.toList.map UInt8.toNat).drop 304 = tX12_read_19 := fd_next (k := 288) tX12_readf_18 rfl
theorem tX12_readf_20 : (cX12_read.data.toList.map UInt8.toNat).drop 320 = tX12_read_20 := fd_next (k := 304) tX12_readf_19 rfl
theorem tX12_readf_21 : (cX12_read.data.toList.map UInt8.toNat).drop 336 = tX12_read_21 := fd_next (k := 320) tX12_readf_20 rfl
theorem tX12_readf_22 : (cX12_read.data.toList.map UInt8.toNat).drop 352 = tX12_read_22 := fd_next (k := 336) tX12_readf_21 rfl
theorem tX12_readf_23 : (cX12_read.data.toList.map UInt8.toNat).drop 368 = tX12_read_23 := fd_next (k := 352) tX12_readf_22 rfl
theorem tX12_readf_24 : (cX12_read.data.toList.map UInt8.toNat).drop 384 = tX12_read_24 := fd_next (k := 368) tX12_readf_23 rfl
theorem tX12_readf_25 : (cX12_read.data.toList.map UInt8.toNat).drop 400 = tX12_read_25 := fd_next (k := 384) tX12_readf_24 rfl
theorem tX12_readf_26 : (cX12_read.data.toList.map UInt8.toNat).drop 416 = tX12_read_26 := fd_next (k := 400) tX12_readf_25 rfl
theorem dX12_read_0 : decode cX12_read 0 = .ok (.aload_n 0, 1) := dk_42 (fdB_of (k := 0) tX12_readf_0 0 42 rfl)
theorem dX12_read_1 : decode cX12_read 1 = .ok (.iconst 0, 1) := dk_3 (fdB_of (k := 0) tX12_readf_0 1 3 rfl)
theorem dX12_read_2 : decode cX12_read 2 = .ok (.putfield 78, 3) := dk_181 (fdB_of (k := 0) tX12_readf_0 2 181 rfl) (fdB_of (k := 0) tX12_readf_0 3 0 rfl) (fdB_of (k := 0) tX12_readf_0 4 78 rfl)
theorem dX12_read_5 : decode cX12_read 5 = .ok (.aload_n 0, 1) := dk_42 (fdB_of (k := 0) tX12_readf_0 5 42 rfl)
theorem dX12_read_6 : decode cX12_read 6 = .ok (.iconst (-1), 1) := dk_2 (fdB_of (k := 0) tX12_readf_0 6 2 rfl)
theorem dX12_read_7 : decode cX12_read 7 = .ok (.putfield 107, 3) := dk_181 (fdB_of (k := 0) tX12_readf_0 7 181 rfl) (fdB_of (k := 0) tX12_readf_0 8 0 rfl) (fdB_of (k := 0) tX12_readf_0 9 107 rfl)
theorem dX12_read_10 : decode cX12_read 10 = .ok (.aload_n 0, 1) := dk_42 (fdB_of (k := 0) tX12_readf_0 10 42 rfl)
theorem dX12_read_11 : decode cX12_read 11 = .ok (.iconst 0, 1) := dk_3 (fdB_of (k := 0) tX12_readf_0 11 3 rfl)
theorem dX12_read_12 : decode cX12_read 12 = .ok (.putfield 91, 3) := dk_181 (fdB_of (k := 0) tX12_readf_0 12 181 rfl) (fdB_of (k := 0) tX12_readf_0 13 0 rfl) (fdB_of (k := 0) tX12_readf_0 14 91 rfl)
theorem dX12_read_15 : decode cX12_read 15 = .ok (.iconst 0, 1) := dk_3 (fdB_of (k := 0) tX12_readf_0 15 3 rfl)
theorem dX12_read_16 : decode cX12_read 16 = .ok (.istore_n 1, 1) := dk_60 (fdB_of (k := 16) tX12_readf_1 0 60 rfl)
theorem dX12_read_17 : decode cX12_read 17 = .ok (.aload_n 0, 1) := dk_42 (fdB_of (k := 16) tX12_readf_1 1 42 rfl)
theorem dX12_read_18 : decode cX12_read 18 = .ok (.iconst 0, 1) := dk_3 (fdB_of (k := 16) tX12_readf_1 2 3 rfl)
theorem dX12_read_19 : decode cX12_read 19 = .ok (.putfield 125, 3) := dk_181 (fdB_of (k := 16) tX12_readf_1 3 181 rfl) (fdB_of (k := 16) tX12_readf_1 4 0 rfl) (fdB_of (k := 16) tX12_readf_1 5 125 rfl)
theorem dX12_read_22 : decode cX12_read 22 = .ok (.aload_n 0, 1) := dk_42 (fdB_of (k := 16) tX12_readf_1 6 42 rfl)
theorem dX12_read_23 : decode cX12_read 23 = .ok (.iconst 0, 1) := dk_3 (fdB_of (k := 16) tX12_readf_1 7 3 rfl)
theorem dX12_read_24 : decode cX12_read 24 = .ok (.putfield 136, 3) := dk_181 (fdB_of (k := 16) tX12_readf_1 8 181 rfl) (fdB_of (k := 16) tX12_readf_1 9 0 rfl) (fdB_of (k := 16) tX12_readf_1 10 136 rfl)
theorem dX12_read_27 : decode cX12_read 27 = .ok (.aload_n 0, 1) := dk_42 (fdB_of (k := 16) tX12_readf_1 11 42 rfl)
theorem dX12_read_28 : decode cX12_read 28 = .ok (.iconst 0, 1) := dk_3 (fdB_of (k := 16) tX12_readf_1 12 3 rfl)
theorem dX12_read_29 : decode cX12_read 29 = .ok (.putfield 148, 3) := dk_181 (fdB_of (k := 16) tX12_readf_1 13 181 rfl) (fdB_of (k := 16) tX12_readf_1 14 0 rfl) (fdB_of (k := 16) tX12_readf_1 15 148 rfl)
theorem dX12_read_32 : decode cX12_read 32 = .ok (.aload_n 0, 1) := dk_42 (fdB_of (k := 32) tX12_readf_2 0 42 rfl)
theorem dX12_read_33 : decode cX12_read 33 = .ok (.iconst 0, 1) := dk_3 (fdB_of (k := 32) tX12_readf_2 1 3 rfl)
theorem dX12_read_34 : decode cX12_read 34 = .ok (.putfield 155, 3) := dk_181 (fdB_of (k := 32) tX12_readf_2 2 181 rfl) (fdB_of (k := 32) tX12_readf_2 3 0 rfl) (fdB_of (k := 32) tX12_readf_2 4 155 rfl)
theorem dX12_read_37 : decode cX12_read 37 = .ok (.bipush 8, 2) := dk_16 (fdB_of (k := 32) tX12_readf_2 5 16 rfl) (fdB_of (k := 32) tX12_readf_2 6 8 rfl) (by decide +kernel)
theorem dX12_read_39 : decode cX12_read 39 = .ok (.istore_n 2, 1) := dk_61 (fdB_of (k := 32) tX12_readf_2 7 61 rfl)
theorem dX12_read_40 : decode cX12_read 40 = .ok (.iload_n 2, 1) := dk_28 (fdB_of (k := 32) tX12_readf_2 8 28 rfl)
theorem dX12_read_41 : decode cX12_read 41 = .ok (.bipush 16, 2) := dk_16 (fdB_of (k := 32) tX12_readf_2 9 16 rfl) (fdB_of (k := 32) tX12_readf_2 10 16 rfl) (by decide +kernel)
theorem dX12_read_43 : decode cX12_read 43 = .ok (.if_icmp .ge 16, 3) := dk_162 (fdB_of (k := 32) tX12_readf_2 11 162 rfl) (fdB_of (k := 32) tX12_readf_2 12 0 rfl) (fdB_of (k := 32) tX12_readf_2 13 16 rfl) (by decide +kernel)
theorem dX12_read_46 : decode cX12_read 46 = .ok (.aload_n 0, 1) := dk_42 (fdB_of (k := 32) tX12_readf_2 14 42 rfl)
theorem dX12_read_47 : decode cX12_read 47 = .ok (.getfield 19, 3) := dk_180 (fdB_of (k := 32) tX12_readf_2 15 180 rfl) (fdB_of (k := 48) tX12_readf_3 0 0 rfl) (fdB_of (k := 48) tX12_readf_3 1 19 rfl)
theorem dX12_read_50 : decode cX12_read 50 = .ok (.iload_n 2, 1) := dk_28 (fdB_of (k := 48) tX12_readf_3 2 28 rfl)
theorem dX12_read_51 : decode cX12_read 51 = .ok (.iconst 0, 1) := dk_3 (fdB_of (k := 48) tX12_readf_3 3 3 rfl)
theorem dX12_read_52 : decode cX12_read 52 = .ok (.iastore, 1) := dk_79 (fdB_of (k := 48) tX12_readf_3 4 79 rfl)
theorem dX12_read_53 : decode cX12_read 53 = .ok (.iinc 2 1, 3) := dk_132 (fdB_of (k := 48) tX12_readf_3 5 132 rfl) (fdB_of (k := 48) tX12_readf_3 6 2 rfl) (fdB_of (k := 48) tX12_readf_3 7 1 rfl) (by decide +kernel)
theorem dX12_read_56 : decode cX12_read 56 = .ok (.goto (-16), 3) := dk_167 (fdB_of (k := 48) tX12_readf_3 8 167 rfl) (fdB_of (k := 48) tX12_readf_3 9 255 rfl) (fdB_of (k := 48) tX12_readf_3 10 240 rfl) (by decide +kernel)
theorem dX12_read_59 : decode cX12_read 59 = .ok (.aload_n 0, 1) := dk_42 (fdB_of (k := 48) tX12_readf_3 11 42 rfl)
theorem dX12_read_60 : decode cX12_read 60 = .ok (.invokevirtual 118, 3) := dk_182 (fdB_of (k := 48) tX12_readf_3 12 182 rfl) (fdB_of (k := 48) tX12_readf_3 13 0 rfl) (fdB_of (k := 48) tX12_readf_3 14 118 rfl)
theorem dX12_read_63 : decode cX12_read 63 = .ok (.aload_n 0, 1) := dk_42 (fdB_of (k := 48) tX12_readf_3 15 42 rfl)
theorem dX12_read_64 : decode cX12_read 64 = .ok (.invokevirtual 110, 3) := dk_182 (fdB_of (k := 64) tX12_readf_4 0 182 rfl) (fdB_of (k := 64) tX12_readf_4 1 0 rfl) (fdB_of (k := 64) tX12_readf_4 2 110 rfl)
theorem dX12_read_67 : decode cX12_read 67 = .ok (.ifCond .eq 152, 3) := dk_153 (fdB_of (k := 64) tX12_readf_4 3 153 rfl) (fdB_of (k := 64) tX12_readf_4 4 0 rfl) (fdB_of (k := 64) tX12_readf_4 5 152 rfl) (by decide +kernel)
theorem dX12_read_70 : decode cX12_read 70 = .ok (.aload_n 0, 1) := dk_42 (fdB_of (k := 64) tX12_readf_4 6 42 rfl)
theorem dX12_read_71 : decode cX12_read 71 = .ok (.getfield 101, 3) := dk_180 (fdB_of (k := 64) tX12_readf_4 7 180 rfl) (fdB_of (k := 64) tX12_readf_4 8 0 rfl) (fdB_of (k := 64) tX12_readf_4 9 101 rfl)
theorem dX12_read_74 : decode cX12_read 74 = .ok (.ifCond .eq 145, 3) := dk_153 (fdB_of (k := 64) tX12_readf_4 10 153 rfl) (fdB_of (k := 64) tX12_readf_4 11 0 rfl) (fdB_of (k := 64) tX12_readf_4 12 145 rfl) (by decide +kernel)
theorem dX12_read_77 : decode cX12_read 77 = .ok (.aload_n 0, 1) := dk_42 (fdB_of (k := 64) tX12_readf_4 13 42 rfl)
theorem dX12_read_78 : decode cX12_read 78 = .ok (.invokevirtual 158, 3) := dk_182 (fdB_of (k := 64) tX12_readf_4 14 182 rfl) (fdB_of (k := 64) tX12_readf_4 15 0 rfl) (fdB_of (k := 80) tX12_readf_5 0 158 rfl)
theorem dX12_read_81 : decode cX12_read 81 = .ok (.istore_n 2, 1) := dk_61 (fdB_of (k := 80) tX12_readf_5 1 61 rfl)
theorem dX12_read_82 : decode cX12_read 82 = .ok (.aload_n 0, 1) := dk_42 (fdB_of (k := 80) tX12_readf_5 2 42 rfl)
theorem dX12_read_83 : decode cX12_read 83 = .ok (.iload_n 2, 1) := dk_28 (fdB_of (k := 80) tX12_readf_5 3 28 rfl)
theorem dX12_read_84 : decode cX12_read 84 = .ok (.ifCond .ne 20, 3) := dk_154 (fdB_of (k := 80) tX12_readf_5 4 154 rfl) (fdB_of (k := 80) tX12_readf_5 5 0 rfl) (fdB_of (k := 80) tX12_readf_5 6 20 rfl) (by decide +kernel)
theorem dX12_read_87 : decode cX12_read 87 = .ok (.aload_n 0, 1) := dk_42 (fdB_of (k := 80) tX12_readf_5 7 42 rfl)
theorem dX12_read_88 : decode cX12_read 88 = .ok (.getfield 125, 3) := dk_180 (fdB_of (k := 80) tX12_readf_5 8 180 rfl) (fdB_of (k := 80) tX12_readf_5 9 0 rfl) (fdB_of (k := 80) tX12_readf_5 10 125 rfl)
theorem dX12_read_91 : decode cX12_read 91 = .ok (.bipush 16, 2) := dk_16 (fdB_of (k := 80) tX12_readf_5 11 16 rfl) (fdB_of (k := 80) tX12_readf_5 12 16 rfl) (by decide +kernel)
theorem dX12_read_93 : decode cX12_read 93 = .ok (.if_icmp .ge 7, 3) := dk_162 (fdB_of (k := 80) tX12_readf_5 13 162 rfl) (fdB_of (k := 80) tX12_readf_5 14 0 rfl) (fdB_of (k := 80) tX12_readf_5 15 7 rfl) (by decide +kernel)
theorem dX12_read_96 : decode cX12_read 96 = .ok (.iconst 1, 1) := dk_4 (fdB_of (k := 96) tX12_readf_6 0 4 rfl)
theorem dX12_read_97 : decode cX12_read 97 = .ok (.goto 69, 3) := dk_167 (fdB_of (k := 96) tX12_readf_6 1 167 rfl) (fdB_of (k := 96) tX12_readf_6 2 0 rfl) (fdB_of (k := 96) tX12_readf_6 3 69 rfl) (by decide +kernel)
theorem dX12_read_100 : decode cX12_read 100 = .ok (.iconst 0, 1) := dk_3 (fdB_of (k := 96) tX12_readf_6 4 3 rfl)
theorem dX12_read_101 : decode cX12_read 101 = .ok (.goto 65, 3) := dk_167 (fdB_of (k := 96) tX12_readf_6 5 167 rfl) (fdB_of (k := 96) tX12_readf_6 6 0 rfl) (fdB_of (k := 96) tX12_readf_6 7 65 rfl) (by decide +kernel)
theorem dX12_read_104 : decode cX12_read 104 = .ok (.iload_n 2, 1) := dk_28 (fdB_of (k := 96) tX12_readf_6 8 28 rfl)
theorem dX12_read_105 : decode cX12_read 105 = .ok (.iconst 1, 1) := dk_4 (fdB_of (k := 96) tX12_readf_6 9 4 rfl)
theorem dX12_read_106 : decode cX12_read 106 = .ok (.if_icmp .ne 19, 3) := dk_160 (fdB_of (k := 96) tX12_readf_6 10 160 rfl) (fdB_of (k := 96) tX12_readf_6 11 0 rfl) (fdB_of (k := 96) tX12_readf_6 12 19 rfl) (by decide +kernel)
theorem dX12_read_109 : decode cX12_read 109 = .ok (.aload_n 0, 1) := dk_42 (fdB_of (k := 96) tX12_readf_6 13 42 rfl)
theorem dX12_read_110 : decode cX12_read 110 = .ok (.getfield 136, 3) := dk_180 (fdB_of (k := 96) tX12_readf_6 14 180 rfl) (fdB_of (k := 96) tX12_readf_6 15 0 rfl) (fdB_of (k := 112) tX12_readf_7 0 136 rfl)
theorem dX12_read_113 : decode cX12_read 113 = .ok (.iconst 2, 1) := dk_5 (fdB_of (k := 112) tX12_readf_7 1 5 rfl)
theorem dX12_read_114 : decode cX12_read 114 = .ok (.if_icmp .ge 7, 3) := dk_162 (fdB_of (k := 112) tX12_readf_7 2 162 rfl) (fdB_of (k := 112) tX12_readf_7 3 0 rfl) (fdB_of (k := 112) tX12_readf_7 4 7 rfl) (by decide +kernel)
theorem dX12_read_117 : decode cX12_read 117 = .ok (.iconst 1, 1) := dk_4 (fdB_of (k := 112) tX12_readf_7 5 4 rfl)
theorem dX12_read_118 : decode cX12_read 118 = .ok (.goto 48, 3) := dk_167 (fdB_of (k := 112) tX12_readf_7 6 167 rfl) (fdB_of (k := 112) tX12_readf_7 7 0 rfl) (fdB_of (k := 112) tX12_readf_7 8 48 rfl) (by decide +kernel)
theorem dX12_read_121 : decode cX12_read 121 = .ok (.iconst 0, 1) := dk_3 (fdB_of (k := 112) tX12_readf_7 9 3 rfl)
theorem dX12_read_122 : decode cX12_read 122 = .ok (.goto 44, 3) := dk_167 (fdB_of (k := 112) tX12_readf_7 10 167 rfl) (fdB_of (k := 112) tX12_readf_7 11 0 rfl) (fdB_of (k := 112) tX12_readf_7 12 44 rfl) (by decide +kernel)
theorem dX12_read_125 : decode cX12_read 125 = .ok (.iload_n 2, 1) := dk_28 (fdB_of (k := 112) tX12_readf_7 13 28 rfl)
theorem dX12_read_126 : decode cX12_read 126 = .ok (.iconst 2, 1) := dk_5 (fdB_of (k := 112) tX12_readf_7 14 5 rfl)
theorem dX12_read_127 : decode cX12_read 127 = .ok (.if_icmp .eq 34, 3) := dk_159 (fdB_of (k := 112) tX12_readf_7 15 159 rfl) (fdB_of (k := 128) tX12_readf_8 0 0 rfl) (fdB_of (k := 128) tX12_readf_8 1 34 rfl) (by decide +kernel)
theorem dX12_read_130 : decode cX12_read 130 = .ok (.iload_n 2, 1) := dk_28 (fdB_of (k := 128) tX12_readf_8 2 28 rfl)
theorem dX12_read_131 : decode cX12_read 131 = .ok (.iconst 3, 1) := dk_6 (fdB_of (k := 128) tX12_readf_8 3 6 rfl)
theorem dX12_read_132 : decode cX12_read 132 = .ok (.if_icmp .ne 15, 3) := dk_160 (fdB_of (k := 128) tX12_readf_8 4 160 rfl) (fdB_of (k := 128) tX12_readf_8 5 0 rfl) (fdB_of (k := 128) tX12_readf_8 6 15 rfl) (by decide +kernel)
theorem dX12_read_135 : decode cX12_read 135 = .ok (.aload_n 0, 1) := dk_42 (fdB_of (k := 128) tX12_readf_8 7 42 rfl)
theorem dX12_read_136 : decode cX12_read 136 = .ok (.getfield 148, 3) := dk_180 (fdB_of (k := 128) tX12_readf_8 8 180 rfl) (fdB_of (k := 128) tX12_readf_8 9 0 rfl) (fdB_of (k := 128) tX12_readf_8 10 148 rfl)
theorem dX12_read_139 : decode cX12_read 139 = .ok (.bipush 8, 2) := dk_16 (fdB_of (k := 128) tX12_readf_8 11 16 rfl) (fdB_of (k := 128) tX12_readf_8 12 8 rfl) (by decide +kernel)
theorem dX12_read_141 : decode cX12_read 141 = .ok (.if_icmp .ge 24, 3) := dk_162 (fdB_of (k := 128) tX12_readf_8 13 162 rfl) (fdB_of (k := 128) tX12_readf_8 14 0 rfl) (fdB_of (k := 128) tX12_readf_8 15 24 rfl) (by decide +kernel)
theorem dX12_read_144 : decode cX12_read 144 = .ok (.goto 17, 3) := dk_167 (fdB_of (k := 144) tX12_readf_9 0 167 rfl) (fdB_of (k := 144) tX12_readf_9 1 0 rfl) (fdB_of (k := 144) tX12_readf_9 2 17 rfl) (by decide +kernel)
theorem dX12_read_147 : decode cX12_read 147 = .ok (.iload_n 2, 1) := dk_28 (fdB_of (k := 144) tX12_readf_9 3 28 rfl)
theorem dX12_read_148 : decode cX12_read 148 = .ok (.iconst 4, 1) := dk_7 (fdB_of (k := 144) tX12_readf_9 4 7 rfl)
theorem dX12_read_149 : decode cX12_read 149 = .ok (.if_icmp .ne 16, 3) := dk_160 (fdB_of (k := 144) tX12_readf_9 5 160 rfl) (fdB_of (k := 144) tX12_readf_9 6 0 rfl) (fdB_of (k := 144) tX12_readf_9 7 16 rfl) (by decide +kernel)
theorem dX12_read_152 : decode cX12_read 152 = .ok (.aload_n 0, 1) := dk_42 (fdB_of (k := 144) tX12_readf_9 8 42 rfl)
theorem dX12_read_153 : decode cX12_read 153 = .ok (.getfield 155, 3) := dk_180 (fdB_of (k := 144) tX12_readf_9 9 180 rfl) (fdB_of (k := 144) tX12_readf_9 10 0 rfl) (fdB_of (k := 144) tX12_readf_9 11 155 rfl)
theorem dX12_read_156 : decode cX12_read 156 = .ok (.bipush 6, 2) := dk_16 (fdB_of (k := 144) tX12_readf_9 12 16 rfl) (fdB_of (k := 144) tX12_readf_9 13 6 rfl) (by decide +kernel)
theorem dX12_read_158 : decode cX12_read 158 = .ok (.if_icmp .ge 7, 3) := dk_162 (fdB_of (k := 144) tX12_readf_9 14 162 rfl) (fdB_of (k := 144) tX12_readf_9 15 0 rfl) (fdB_of (k := 160) tX12_readf_10 0 7 rfl) (by decide +kernel)
theorem dX12_read_161 : decode cX12_read 161 = .ok (.iconst 1, 1) := dk_4 (fdB_of (k := 160) tX12_readf_10 1 4 rfl)
theorem dX12_read_162 : decode cX12_read 162 = .ok (.goto 4, 3) := dk_167 (fdB_of (k := 160) tX12_readf_10 2 167 rfl) (fdB_of (k := 160) tX12_readf_10 3 0 rfl) (fdB_of (k := 160) tX12_readf_10 4 4 rfl) (by decide +kernel)
theorem dX12_read_165 : decode cX12_read 165 = .ok (.iconst 0, 1) := dk_3 (fdB_of (k := 160) tX12_readf_10 5 3 rfl)
theorem dX12_read_166 : decode cX12_read 166 = .ok (.invokevirtual 114, 3) := dk_182 (fdB_of (k := 160) tX12_readf_10 6 182 rfl) (fdB_of (k := 160) tX12_readf_10 7 0 rfl) (fdB_of (k := 160) tX12_readf_10 8 114 rfl)
theorem dX12_read_169 : decode cX12_read 169 = .ok (.aload_n 0, 1) := dk_42 (fdB_of (k := 160) tX12_readf_10 9 42 rfl)
theorem dX12_read_170 : decode cX12_read 170 = .ok (.invokevirtual 110, 3) := dk_182 (fdB_of (k := 160) tX12_readf_10 10 182 rfl) (fdB_of (k := 160) tX12_readf_10 11 0 rfl) (fdB_of (k := 160) tX12_readf_10 12 110 rfl)
theorem dX12_read_173 : decode cX12_read 173 = .ok (.ifCond .eq 12, 3) := dk_153 (fdB_of (k := 160) tX12_readf_10 13 153 rfl) (fdB_of (k := 160) tX12_readf_10 14 0 rfl) (fdB_of (k := 160) tX12_readf_10 15 12 rfl) (by decide +kernel)
theorem dX12_read_176 : decode cX12_read 176 = .ok (.aload_n 0, 1) := dk_42 (fdB_of (k := 176) tX12_readf_11 0 42 rfl)
theorem dX12_read_177 : decode cX12_read 177 = .ok (.invokevirtual 118, 3) := dk_182 (fdB_of (k := 176) tX12_readf_11 1 182 rfl) (fdB_of (k := 176) tX12_readf_11 2 0 rfl) (fdB_of (k := 176) tX12_readf_11 3 118 rfl)
theorem dX12_read_180 : decode cX12_read 180 = .ok (.aload_n 0, 1) := dk_42 (fdB_of (k := 176) tX12_readf_11 4 42 rfl)
theorem dX12_read_181 : decode cX12_read 181 = .ok (.iload_n 2, 1) := dk_28 (fdB_of (k := 176) tX12_readf_11 5 28 rfl)
theorem dX12_read_182 : decode cX12_read 182 = .ok (.invokevirtual 162, 3) := dk_182 (fdB_of (k := 176) tX12_readf_11 6 182 rfl) (fdB_of (k := 176) tX12_readf_11 7 0 rfl) (fdB_of (k := 176) tX12_readf_11 8 162 rfl)
theorem dX12_read_185 : decode cX12_read 185 = .ok (.aload_n 0, 1) := dk_42 (fdB_of (k := 176) tX12_readf_11 9 42 rfl)
theorem dX12_read_186 : decode cX12_read 186 = .ok (.aload_n 0, 1) := dk_42 (fdB_of (k := 176) tX12_readf_11 10 42 rfl)
theorem dX12_read_187 : decode cX12_read 187 = .ok (.getfield 101, 3) := dk_180 (fdB_of (k := 176) tX12_readf_11 11 180 rfl) (fdB_of (k := 176) tX12_readf_11 12 0 rfl) (fdB_of (k := 176) tX12_readf_11 13 101 rfl)
theorem dX12_read_190 : decode cX12_read 190 = .ok (.iconst 3, 1) := dk_6 (fdB_of (k := 176) tX12_readf_11 14 6 rfl)
theorem dX12_read_191 : decode cX12_read 191 = .ok (.if_icmp .ne 7, 3) := dk_160 (fdB_of (k := 176) tX12_readf_11 15 160 rfl) (fdB_of (k := 192) tX12_readf_12 0 0 rfl) (fdB_of (k := 192) tX12_readf_12 1 7 rfl) (by decide +kernel)
theorem dX12_read_194 : decode cX12_read 194 = .ok (.iconst 1, 1) := dk_4 (fdB_of (k := 192) tX12_readf_12 2 4 rfl)
theorem dX12_read_195 : decode cX12_read 195 = .ok (.goto 4, 3) := dk_167 (fdB_of (k := 192) tX12_readf_12 3 167 rfl) (fdB_of (k := 192) tX12_readf_12 4 0 rfl) (fdB_of (k := 192) tX12_readf_12 5 4 rfl) (by decide +kernel)
theorem dX12_read_198 : decode cX12_read 198 = .ok (.iconst 0, 1) := dk_3 (fdB_of (k := 192) tX12_readf_12 6 3 rfl)
theorem dX12_read_199 : decode cX12_read 199 = .ok (.invokevirtual 114, 3) := dk_182 (fdB_of (k := 192) tX12_readf_12 7 182 rfl) (fdB_of (k := 192) tX12_readf_12 8 0 rfl) (fdB_of (k := 192) tX12_readf_12 9 114 rfl)
theorem dX12_read_202 : decode cX12_read 202 = .ok (.aload_n 0, 1) := dk_42 (fdB_of (k := 192) tX12_readf_12 10 42 rfl)
theorem dX12_read_203 : decode cX12_read 203 = .ok (.invokevirtual 110, 3) := dk_182 (fdB_of (k := 192) tX12_readf_12 11 182 rfl) (fdB_of (k := 192) tX12_readf_12 12 0 rfl) (fdB_of (k := 192) tX12_readf_12 13 110 rfl)
theorem dX12_read_206 : decode cX12_read 206 = .ok (.ifCond .eq 7, 3) := dk_153 (fdB_of (k := 192) tX12_readf_12 14 153 rfl) (fdB_of (k := 192) tX12_readf_12 15 0 rfl) (fdB_of (k := 208) tX12_readf_13 0 7 rfl) (by decide +kernel)
theorem dX12_read_209 : decode cX12_read 209 = .ok (.aload_n 0, 1) := dk_42 (fdB_of (k := 208) tX12_readf_13 1 42 rfl)
theorem dX12_read_210 : decode cX12_read 210 = .ok (.invokevirtual 118, 3) := dk_182 (fdB_of (k := 208) tX12_readf_13 2 182 rfl) (fdB_of (k := 208) tX12_readf_13 3 0 rfl) (fdB_of (k := 208) tX12_readf_13 4 118 rfl)
theorem dX12_read_213 : decode cX12_read 213 = .ok (.iinc 1 1, 3) := dk_132 (fdB_of (k := 208) tX12_readf_13 5 132 rfl) (fdB_of (k := 208) tX12_readf_13 6 1 rfl) (fdB_of (k := 208) tX12_readf_13 7 1 rfl) (by decide +kernel)
theorem dX12_read_216 : decode cX12_read 216 = .ok (.goto (-153), 3) := dk_167 (fdB_of (k := 208) tX12_readf_13 8 167 rfl) (fdB_of (k := 208) tX12_readf_13 9 255 rfl) (fdB_of (k := 208) tX12_readf_13 10 103 rfl) (by decide +kernel)
theorem dX12_read_219 : decode cX12_read 219 = .ok (.aload_n 0, 1) := dk_42 (fdB_of (k := 208) tX12_readf_13 11 42 rfl)
theorem dX12_read_220 : decode cX12_read 220 = .ok (.invokevirtual 110, 3) := dk_182 (fdB_of (k := 208) tX12_readf_13 12 182 rfl) (fdB_of (k := 208) tX12_readf_13 13 0 rfl) (fdB_of (k := 208) tX12_readf_13 14 110 rfl)
theorem dX12_read_223 : decode cX12_read 223 = .ok (.ifCond .ne 11, 3) := dk_154 (fdB_of (k := 208) tX12_readf_13 15 154 rfl) (fdB_of (k := 224) tX12_readf_14 0 0 rfl) (fdB_of (k := 224) tX12_readf_14 1 11 rfl) (by decide +kernel)
theorem dX12_read_226 : decode cX12_read 226 = .ok (.bipush (-10), 2) := dk_16 (fdB_of (k := 224) tX12_readf_14 2 16 rfl) (fdB_of (k := 224) tX12_readf_14 3 246 rfl) (by decide +kernel)
theorem dX12_read_228 : decode cX12_read 228 = .ok (.aload_n 0, 1) := dk_42 (fdB_of (k := 224) tX12_readf_14 4 42 rfl)
theorem dX12_read_229 : decode cX12_read 229 = .ok (.getfield 107, 3) := dk_180 (fdB_of (k := 224) tX12_readf_14 5 180 rfl) (fdB_of (k := 224) tX12_readf_14 6 0 rfl) (fdB_of (k := 224) tX12_readf_14 7 107 rfl)
theorem dX12_read_232 : decode cX12_read 232 = .ok (.isub, 1) := dk_100 (fdB_of (k := 224) tX12_readf_14 8 100 rfl)
theorem dX12_read_233 : decode cX12_read 233 = .ok (.ireturn, 1) := dk_172 (fdB_of (k := 224) tX12_readf_14 9 172 rfl)
theorem dX12_read_234 : decode cX12_read 234 = .ok (.iconst 0, 1) := dk_3 (fdB_of (k := 224) tX12_readf_14 10 3 rfl)
theorem dX12_read_235 : decode cX12_read 235 = .ok (.istore_n 2, 1) := dk_61 (fdB_of (k := 224) tX12_readf_14 11 61 rfl)
theorem dX12_read_236 : decode cX12_read 236 = .ok (.iload_n 2, 1) := dk_28 (fdB_of (k := 224) tX12_readf_14 12 28 rfl)
theorem dX12_read_237 : decode cX12_read 237 = .ok (.bipush 64, 2) := dk_16 (fdB_of (k := 224) tX12_readf_14 13 16 rfl) (fdB_of (k := 224) tX12_readf_14 14 64 rfl) (by decide +kernel)
theorem dX12_read_239 : decode cX12_read 239 = .ok (.if_icmp .ge 24, 3) := dk_162 (fdB_of (k := 224) tX12_readf_14 15 162 rfl) (fdB_of (k := 240) tX12_readf_15 0 0 rfl) (fdB_of (k := 240) tX12_readf_15 1 24 rfl) (by decide +kernel)
theorem dX12_read_242 : decode cX12_read 242 = .ok (.aload_n 0, 1) := dk_42 (fdB_of (k := 240) tX12_readf_15 2 42 rfl)
theorem dX12_read_243 : decode cX12_read 243 = .ok (.getfield 13, 3) := dk_180 (fdB_of (k := 240) tX12_readf_15 3 180 rfl) (fdB_of (k := 240) tX12_readf_15 4 0 rfl) (fdB_of (k := 240) tX12_readf_15 5 13 rfl)
theorem dX12_read_246 : decode cX12_read 246 = .ok (.iload_n 2, 1) := dk_28 (fdB_of (k := 240) tX12_readf_15 6 28 rfl)
theorem dX12_read_247 : decode cX12_read 247 = .ok (.aload_n 0, 1) := dk_42 (fdB_of (k := 240) tX12_readf_15 7 42 rfl)
theorem dX12_read_248 : decode cX12_read 248 = .ok (.getfield 13, 3) := dk_180 (fdB_of (k := 240) tX12_readf_15 8 180 rfl) (fdB_of (k := 240) tX12_readf_15 9 0 rfl) (fdB_of (k := 240) tX12_readf_15 10 13 rfl)
theorem dX12_read_251 : decode cX12_read 251 = .ok (.bipush 64, 2) := dk_16 (fdB_of (k := 240) tX12_readf_15 11 16 rfl) (fdB_of (k := 240) tX12_readf_15 12 64 rfl) (by decide +kernel)
theorem dX12_read_253 : decode cX12_read 253 = .ok (.iload_n 2, 1) := dk_28 (fdB_of (k := 240) tX12_readf_15 13 28 rfl)
theorem dX12_read_254 : decode cX12_read 254 = .ok (.iadd, 1) := dk_96 (fdB_of (k := 240) tX12_readf_15 14 96 rfl)
theorem dX12_read_255 : decode cX12_read 255 = .ok (.iaload, 1) := dk_46 (fdB_of (k := 240) tX12_readf_15 15 46 rfl)
theorem dX12_read_256 : decode cX12_read 256 = .ok (.iastore, 1) := dk_79 (fdB_of (k := 256) tX12_readf_16 0 79 rfl)
theorem dX12_read_257 : decode cX12_read 257 = .ok (.iinc 2 1, 3) := dk_132 (fdB_of (k := 256) tX12_readf_16 1 132 rfl) (fdB_of (k := 256) tX12_readf_16 2 2 rfl) (fdB_of (k := 256) tX12_readf_16 3 1 rfl) (by decide +kernel)
theorem dX12_read_260 : decode cX12_read 260 = .ok (.goto (-24), 3) := dk_167 (fdB_of (k := 256) tX12_readf_16 4 167 rfl) (fdB_of (k := 256) tX12_readf_16 5 255 rfl) (fdB_of (k := 256) tX12_readf_16 6 232 rfl) (by decide +kernel)
theorem dX12_read_263 : decode cX12_read 263 = .ok (.iconst 0, 1) := dk_3 (fdB_of (k := 256) tX12_readf_16 7 3 rfl)
theorem dX12_read_264 : decode cX12_read 264 = .ok (.istore_n 2, 1) := dk_61 (fdB_of (k := 256) tX12_readf_16 8 61 rfl)
theorem dX12_read_265 : decode cX12_read 265 = .ok (.iload_n 2, 1) := dk_28 (fdB_of (k := 256) tX12_readf_16 9 28 rfl)
theorem dX12_read_266 : decode cX12_read 266 = .ok (.bipush 18, 2) := dk_16 (fdB_of (k := 256) tX12_readf_16 10 16 rfl) (fdB_of (k := 256) tX12_readf_16 11 18 rfl) (by decide +kernel)
theorem dX12_read_268 : decode cX12_read 268 = .ok (.if_icmp .ge 39, 3) := dk_162 (fdB_of (k := 256) tX12_readf_16 12 162 rfl) (fdB_of (k := 256) tX12_readf_16 13 0 rfl) (fdB_of (k := 256) tX12_readf_16 14 39 rfl) (by decide +kernel)
theorem dX12_read_271 : decode cX12_read 271 = .ok (.aload_n 0, 1) := dk_42 (fdB_of (k := 256) tX12_readf_16 15 42 rfl)
theorem dX12_read_272 : decode cX12_read 272 = .ok (.getfield 16, 3) := dk_180 (fdB_of (k := 272) tX12_readf_17 0 180 rfl) (fdB_of (k := 272) tX12_readf_17 1 0 rfl) (fdB_of (k := 272) tX12_readf_17 2 16 rfl)
theorem dX12_read_275 : decode cX12_read 275 = .ok (.iload_n 2, 1) := dk_28 (fdB_of (k := 272) tX12_readf_17 3 28 rfl)
theorem dX12_read_276 : decode cX12_read 276 = .ok (.aload_n 0, 1) := dk_42 (fdB_of (k := 272) tX12_readf_17 4 42 rfl)
theorem dX12_read_277 : decode cX12_read 277 = .ok (.getfield 16, 3) := dk_180 (fdB_of (k := 272) tX12_readf_17 5 180 rfl) (fdB_of (k := 272) tX12_readf_17 6 0 rfl) (fdB_of (k := 272) tX12_readf_17 7 16 rfl)
theorem dX12_read_280 : decode cX12_read 280 = .ok (.bipush 18, 2) := dk_16 (fdB_of (k := 272) tX12_readf_17 8 16 rfl) (fdB_of (k := 272) tX12_readf_17 9 18 rfl) (by decide +kernel)
theorem dX12_read_282 : decode cX12_read 282 = .ok (.iload_n 2, 1) := dk_28 (fdB_of (k := 272) tX12_readf_17 10 28 rfl)
theorem dX12_read_283 : decode cX12_read 283 = .ok (.iadd, 1) := dk_96 (fdB_of (k := 272) tX12_readf_17 11 96 rfl)
theorem dX12_read_284 : decode cX12_read 284 = .ok (.iaload, 1) := dk_46 (fdB_of (k := 272) tX12_readf_17 12 46 rfl)
theorem dX12_read_285 : decode cX12_read 285 = .ok (.iastore, 1) := dk_79 (fdB_of (k := 272) tX12_readf_17 13 79 rfl)
theorem dX12_read_286 : decode cX12_read 286 = .ok (.aload_n 0, 1) := dk_42 (fdB_of (k := 272) tX12_readf_17 14 42 rfl)
theorem dX12_read_287 : decode cX12_read 287 = .ok (.getfield 22, 3) := dk_180 (fdB_of (k := 272) tX12_readf_17 15 180 rfl) (fdB_of (k := 288) tX12_readf_18 0 0 rfl) (fdB_of (k := 288) tX12_readf_18 1 22 rfl)
theorem dX12_read_290 : decode cX12_read 290 = .ok (.iload_n 2, 1) := dk_28 (fdB_of (k := 288) tX12_readf_18 2 28 rfl)
theorem dX12_read_291 : decode cX12_read 291 = .ok (.aload_n 0, 1) := dk_42 (fdB_of (k := 288) tX12_readf_18 3 42 rfl)
theorem dX12_read_292 : decode cX12_read 292 = .ok (.getfield 22, 3) := dk_180 (fdB_of (k := 288) tX12_readf_18 4 180 rfl) (fdB_of (k := 288) tX12_readf_18 5 0 rfl) (fdB_of (k := 288) tX12_readf_18 6 22 rfl)
theorem dX12_read_295 : decode cX12_read 295 = .ok (.bipush 18, 2) := dk_16 (fdB_of (k := 288) tX12_readf_18 7 16 rfl) (fdB_of (k := 288) tX12_readf_18 8 18 rfl) (by decide +kernel)
theorem dX12_read_297 : decode cX12_read 297 = .ok (.iload_n 2, 1) := dk_28 (fdB_of (k := 288) tX12_readf_18 9 28 rfl)
theorem dX12_read_298 : decode cX12_read 298 = .ok (.iadd, 1) := dk_96 (fdB_of (k := 288) tX12_readf_18 10 96 rfl)
theorem dX12_read_299 : decode cX12_read 299 = .ok (.iaload, 1) := dk_46 (fdB_of (k := 288) tX12_readf_18 11 46 rfl)
theorem dX12_read_300 : decode cX12_read 300 = .ok (.iastore, 1) := dk_79 (fdB_of (k := 288) tX12_readf_18 12 79 rfl)
theorem dX12_read_301 : decode cX12_read 301 = .ok (.iinc 2 1, 3) := dk_132 (fdB_of (k := 288) tX12_readf_18 13 132 rfl) (fdB_of (k := 288) tX12_readf_18 14 2 rfl) (fdB_of (k := 288) tX12_readf_18 15 1 rfl) (by decide +kernel)
theorem dX12_read_304 : decode cX12_read 304 = .ok (.goto (-39), 3) := dk_167 (fdB_of (k := 304) tX12_readf_19 0 167 rfl) (fdB_of (k := 304) tX12_readf_19 1 255 rfl) (fdB_of (k := 304) tX12_readf_19 2 217 rfl) (by decide +kernel)
theorem dX12_read_307 : decode cX12_read 307 = .ok (.iconst 0, 1) := dk_3 (fdB_of (k := 304) tX12_readf_19 3 3 rfl)
theorem dX12_read_308 : decode cX12_read 308 = .ok (.istore_n 2, 1) := dk_61 (fdB_of (k := 304) tX12_readf_19 4 61 rfl)
theorem dX12_read_309 : decode cX12_read 309 = .ok (.iload_n 2, 1) := dk_28 (fdB_of (k := 304) tX12_readf_19 5 28 rfl)
theorem dX12_read_310 : decode cX12_read 310 = .ok (.bipush 8, 2) := dk_16 (fdB_of (k := 304) tX12_readf_19 6 16 rfl) (fdB_of (k := 304) tX12_readf_19 7 8 rfl) (by decide +kernel)
theorem dX12_read_312 : decode cX12_read 312 = .ok (.if_icmp .ge 24, 3) := dk_162 (fdB_of (k := 304) tX12_readf_19 8 162 rfl) (fdB_of (k := 304) tX12_readf_19 9 0 rfl) (fdB_of (k := 304) tX12_readf_19 10 24 rfl) (by decide +kernel)
theorem dX12_read_315 : decode cX12_read 315 = .ok (.aload_n 0, 1) := dk_42 (fdB_of (k := 304) tX12_readf_19 11 42 rfl)
theorem dX12_read_316 : decode cX12_read 316 = .ok (.getfield 19, 3) := dk_180 (fdB_of (k := 304) tX12_readf_19 12 180 rfl) (fdB_of (k := 304) tX12_readf_19 13 0 rfl) (fdB_of (k := 304) tX12_readf_19 14 19 rfl)
theorem dX12_read_319 : decode cX12_read 319 = .ok (.iload_n 2, 1) := dk_28 (fdB_of (k := 304) tX12_readf_19 15 28 rfl)
theorem dX12_read_320 : decode cX12_read 320 = .ok (.aload_n 0, 1) := dk_42 (fdB_of (k := 320) tX12_readf_20 0 42 rfl)
theorem dX12_read_321 : decode cX12_read 321 = .ok (.getfield 19, 3) := dk_180 (fdB_of (k := 320) tX12_readf_20 1 180 rfl) (fdB_of (k := 320) tX12_readf_20 2 0 rfl) (fdB_of (k := 320) tX12_readf_20 3 19 rfl)
theorem dX12_read_324 : decode cX12_read 324 = .ok (.bipush 8, 2) := dk_16 (fdB_of (k := 320) tX12_readf_20 4 16 rfl) (fdB_of (k := 320) tX12_readf_20 5 8 rfl) (by decide +kernel)
theorem dX12_read_326 : decode cX12_read 326 = .ok (.iload_n 2, 1) := dk_28 (fdB_of (k := 320) tX12_readf_20 6 28 rfl)
theorem dX12_read_327 : decode cX12_read 327 = .ok (.iadd, 1) := dk_96 (fdB_of (k := 320) tX12_readf_20 7 96 rfl)
theorem dX12_read_328 : decode cX12_read 328 = .ok (.iaload, 1) := dk_46 (fdB_of (k := 320) tX12_readf_20 8 46 rfl)
theorem dX12_read_329 : decode cX12_read 329 = .ok (.iastore, 1) := dk_79 (fdB_of (k := 320) tX12_readf_20 9 79 rfl)
theorem dX12_read_330 : decode cX12_read 330 = .ok (.iinc 2 1, 3) := dk_132 (fdB_of (k := 320) tX12_readf_20 10 132 rfl) (fdB_of (k := 320) tX12_readf_20 11 2 rfl) (fdB_of (k := 320) tX12_readf_20 12 1 rfl) (by decide +kernel)
theorem dX12_read_333 : decode cX12_read 333 = .ok (.goto (-24), 3) := dk_167 (fdB_of (k := 320) tX12_readf_20 13 167 rfl) (fdB_of (k := 320) tX12_readf_20 14 255 rfl) (fdB_of (k := 320) tX12_readf_20 15 232 rfl) (by decide +kernel)
theorem dX12_read_336 : decode cX12_read 336 = .ok (.iconst 0, 1) := dk_3 (fdB_of (k := 336) tX12_readf_21 0 3 rfl)
theorem dX12_read_337 : decode cX12_read 337 = .ok (.istore_n 2, 1) := dk_61 (fdB_of (k := 336) tX12_readf_21 1 61 rfl)
theorem dX12_read_338 : decode cX12_read 338 = .ok (.iload_n 2, 1) := dk_28 (fdB_of (k := 336) tX12_readf_21 2 28 rfl)
theorem dX12_read_339 : decode cX12_read 339 = .ok (.bipush 24, 2) := dk_16 (fdB_of (k := 336) tX12_readf_21 3 16 rfl) (fdB_of (k := 336) tX12_readf_21 4 24 rfl) (by decide +kernel)
theorem dX12_read_341 : decode cX12_read 341 = .ok (.if_icmp .ge 23, 3) := dk_162 (fdB_of (k := 336) tX12_readf_21 5 162 rfl) (fdB_of (k := 336) tX12_readf_21 6 0 rfl) (fdB_of (k := 336) tX12_readf_21 7 23 rfl) (by decide +kernel)
theorem dX12_read_344 : decode cX12_read 344 = .ok (.aload_n 0, 1) := dk_42 (fdB_of (k := 336) tX12_readf_21 8 42 rfl)
theorem dX12_read_345 : decode cX12_read 345 = .ok (.getfield 28, 3) := dk_180 (fdB_of (k := 336) tX12_readf_21 9 180 rfl) (fdB_of (k := 336) tX12_readf_21 10 0 rfl) (fdB_of (k := 336) tX12_readf_21 11 28 rfl)
theorem dX12_read_348 : decode cX12_read 348 = .ok (.iconst 1, 1) := dk_4 (fdB_of (k := 336) tX12_readf_21 12 4 rfl)
theorem dX12_read_349 : decode cX12_read 349 = .ok (.iload_n 2, 1) := dk_28 (fdB_of (k := 336) tX12_readf_21 13 28 rfl)
theorem dX12_read_350 : decode cX12_read 350 = .ok (.iadd, 1) := dk_96 (fdB_of (k := 336) tX12_readf_21 14 96 rfl)
theorem dX12_read_351 : decode cX12_read 351 = .ok (.aload_n 0, 1) := dk_42 (fdB_of (k := 336) tX12_readf_21 15 42 rfl)
theorem dX12_read_352 : decode cX12_read 352 = .ok (.getfield 25, 3) := dk_180 (fdB_of (k := 352) tX12_readf_22 0 180 rfl) (fdB_of (k := 352) tX12_readf_22 1 0 rfl) (fdB_of (k := 352) tX12_readf_22 2 25 rfl)
theorem dX12_read_355 : decode cX12_read 355 = .ok (.iload_n 2, 1) := dk_28 (fdB_of (k := 352) tX12_readf_22 3 28 rfl)
theorem dX12_read_356 : decode cX12_read 356 = .ok (.iaload, 1) := dk_46 (fdB_of (k := 352) tX12_readf_22 4 46 rfl)
theorem dX12_read_357 : decode cX12_read 357 = .ok (.iastore, 1) := dk_79 (fdB_of (k := 352) tX12_readf_22 5 79 rfl)
theorem dX12_read_358 : decode cX12_read 358 = .ok (.iinc 2 1, 3) := dk_132 (fdB_of (k := 352) tX12_readf_22 6 132 rfl) (fdB_of (k := 352) tX12_readf_22 7 2 rfl) (fdB_of (k := 352) tX12_readf_22 8 1 rfl) (by decide +kernel)
theorem dX12_read_361 : decode cX12_read 361 = .ok (.goto (-23), 3) := dk_167 (fdB_of (k := 352) tX12_readf_22 9 167 rfl) (fdB_of (k := 352) tX12_readf_22 10 255 rfl) (fdB_of (k := 352) tX12_readf_22 11 233 rfl) (by decide +kernel)
theorem dX12_read_364 : decode cX12_read 364 = .ok (.aload_n 0, 1) := dk_42 (fdB_of (k := 352) tX12_readf_22 12 42 rfl)
theorem dX12_read_365 : decode cX12_read 365 = .ok (.aload_n 0, 1) := dk_42 (fdB_of (k := 352) tX12_readf_22 13 42 rfl)
theorem dX12_read_366 : decode cX12_read 366 = .ok (.getfield 125, 3) := dk_180 (fdB_of (k := 352) tX12_readf_22 14 180 rfl) (fdB_of (k := 352) tX12_readf_22 15 0 rfl) (fdB_of (k := 368) tX12_readf_23 0 125 rfl)
theorem dX12_read_369 : decode cX12_read 369 = .ok (.putfield 166, 3) := dk_181 (fdB_of (k := 368) tX12_readf_23 1 181 rfl) (fdB_of (k := 368) tX12_readf_23 2 0 rfl) (fdB_of (k := 368) tX12_readf_23 3 166 rfl)
theorem dX12_read_372 : decode cX12_read 372 = .ok (.aload_n 0, 1) := dk_42 (fdB_of (k := 368) tX12_readf_23 4 42 rfl)
theorem dX12_read_373 : decode cX12_read 373 = .ok (.aload_n 0, 1) := dk_42 (fdB_of (k := 368) tX12_readf_23 5 42 rfl)
theorem dX12_read_374 : decode cX12_read 374 = .ok (.getfield 136, 3) := dk_180 (fdB_of (k := 368) tX12_readf_23 6 180 rfl) (fdB_of (k := 368) tX12_readf_23 7 0 rfl) (fdB_of (k := 368) tX12_readf_23 8 136 rfl)
theorem dX12_read_377 : decode cX12_read 377 = .ok (.putfield 169, 3) := dk_181 (fdB_of (k := 368) tX12_readf_23 9 181 rfl) (fdB_of (k := 368) tX12_readf_23 10 0 rfl) (fdB_of (k := 368) tX12_readf_23 11 169 rfl)
theorem dX12_read_380 : decode cX12_read 380 = .ok (.aload_n 0, 1) := dk_42 (fdB_of (k := 368) tX12_readf_23 12 42 rfl)
theorem dX12_read_381 : decode cX12_read 381 = .ok (.aload_n 0, 1) := dk_42 (fdB_of (k := 368) tX12_readf_23 13 42 rfl)
theorem dX12_read_382 : decode cX12_read 382 = .ok (.getfield 155, 3) := dk_180 (fdB_of (k := 368) tX12_readf_23 14 180 rfl) (fdB_of (k := 368) tX12_readf_23 15 0 rfl) (fdB_of (k := 384) tX12_readf_24 0 155 rfl)
theorem dX12_read_385 : decode cX12_read 385 = .ok (.putfield 172, 3) := dk_181 (fdB_of (k := 384) tX12_readf_24 1 181 rfl) (fdB_of (k := 384) tX12_readf_24 2 0 rfl) (fdB_of (k := 384) tX12_readf_24 3 172 rfl)
theorem dX12_read_388 : decode cX12_read 388 = .ok (.aload_n 0, 1) := dk_42 (fdB_of (k := 384) tX12_readf_24 4 42 rfl)
theorem dX12_read_389 : decode cX12_read 389 = .ok (.getfield 28, 3) := dk_180 (fdB_of (k := 384) tX12_readf_24 5 180 rfl) (fdB_of (k := 384) tX12_readf_24 6 0 rfl) (fdB_of (k := 384) tX12_readf_24 7 28 rfl)
theorem dX12_read_392 : decode cX12_read 392 = .ok (.iconst 0, 1) := dk_3 (fdB_of (k := 384) tX12_readf_24 8 3 rfl)
theorem dX12_read_393 : decode cX12_read 393 = .ok (.aload_n 0, 1) := dk_42 (fdB_of (k := 384) tX12_readf_24 9 42 rfl)
theorem dX12_read_394 : decode cX12_read 394 = .ok (.getfield 148, 3) := dk_180 (fdB_of (k := 384) tX12_readf_24 10 180 rfl) (fdB_of (k := 384) tX12_readf_24 11 0 rfl) (fdB_of (k := 384) tX12_readf_24 12 148 rfl)
theorem dX12_read_397 : decode cX12_read 397 = .ok (.iastore, 1) := dk_79 (fdB_of (k := 384) tX12_readf_24 13 79 rfl)
theorem dX12_read_398 : decode cX12_read 398 = .ok (.aload_n 0, 1) := dk_42 (fdB_of (k := 384) tX12_readf_24 14 42 rfl)
theorem dX12_read_399 : decode cX12_read 399 = .ok (.iconst 0, 1) := dk_3 (fdB_of (k := 384) tX12_readf_24 15 3 rfl)
theorem dX12_read_400 : decode cX12_read 400 = .ok (.putfield 86, 3) := dk_181 (fdB_of (k := 400) tX12_readf_25 0 181 rfl) (fdB_of (k := 400) tX12_readf_25 1 0 rfl) (fdB_of (k := 400) tX12_readf_25 2 86 rfl)
theorem dX12_read_403 : decode cX12_read 403 = .ok (.aload_n 0, 1) := dk_42 (fdB_of (k := 400) tX12_readf_25 3 42 rfl)
theorem dX12_read_404 : decode cX12_read 404 = .ok (.getfield 34, 3) := dk_180 (fdB_of (k := 400) tX12_readf_25 4 180 rfl) (fdB_of (k := 400) tX12_readf_25 5 0 rfl) (fdB_of (k := 400) tX12_readf_25 6 34 rfl)
theorem dX12_read_407 : decode cX12_read 407 = .ok (.iconst 0, 1) := dk_3 (fdB_of (k := 400) tX12_readf_25 7 3 rfl)
theorem dX12_read_408 : decode cX12_read 408 = .ok (.iconst 0, 1) := dk_3 (fdB_of (k := 400) tX12_readf_25 8 3 rfl)
theorem dX12_read_409 : decode cX12_read 409 = .ok (.bastore, 1) := dk_84 (fdB_of (k := 400) tX12_readf_25 9 84 rfl)
theorem dX12_read_410 : decode cX12_read 410 = .ok (.aload_n 0, 1) := dk_42 (fdB_of (k := 400) tX12_readf_25 10 42 rfl)
theorem dX12_read_411 : decode cX12_read 411 = .ok (.getfield 34, 3) := dk_180 (fdB_of (k := 400) tX12_readf_25 11 180 rfl) (fdB_of (k := 400) tX12_readf_25 12 0 rfl) (fdB_of (k := 400) tX12_readf_25 13 34 rfl)
theorem dX12_read_414 : decode cX12_read 414 = .ok (.iconst 1, 1) := dk_4 (fdB_of (k := 400) tX12_readf_25 14 4 rfl)
theorem dX12_read_415 : decode cX12_read 415 = .ok (.iconst 0, 1) := dk_3 (fdB_of (k := 400) tX12_readf_25 15 3 rfl)
theorem dX12_read_416 : decode cX12_read 416 = .ok (.bastore, 1) := dk_84 (fdB_of (k := 416) tX12_readf_26 0 84 rfl)
theorem dX12_read_417 : decode cX12_read 417 = .ok (.iload_n 1, 1) := dk_27 (fdB_of (k := 416) tX12_readf_26 1 27 rfl)
theorem dX12_read_418 : decode cX12_read 418 = .ok (.ireturn, 1) := dk_172 (fdB_of (k := 416) tX12_readf_26 2 172 rfl)

theorem k_bp24 : (Int8.ofInt (24)).toInt32 = 24 := by decide
theorem q0_30 : Cond.selects RX12 yX12_begins yX12_begins ∈ TT := tq0 30 rfl rfl
theorem q0_33 : Cond.selects RX12 yX12_readsItem yX12_readsItem ∈ TT := tq0 33 rfl rfl
theorem q4_236 : Cond.fieldLink RX12 166 "RhymeLawModel" "words" "I" ∈ TT := tq4 236 rfl rfl
theorem q4_237 : Cond.fieldLink RX12 169 "RhymeLawModel" "forms" "I" ∈ TT := tq4 237 rfl rfl
theorem q4_238 : Cond.fieldLink RX12 172 "RhymeLawModel" "stocks" "I" ∈ TT := tq4 238 rfl rfl
theorem q5_4 : Cond.fieldLink RX12 28 "RhymeLawModel" "s" "[I" ∈ TT := tq5 4 rfl rfl
theorem q5_6 : Cond.fieldLink RX12 34 "RhymeLawModel" "isKept" "[Z" ∈ TT := tq5 6 rfl rfl
theorem q5_127 : Cond.methodLink RX12 158 yX12_begins ∈ TT := tq5 127 rfl rfl
theorem q5_129 : Cond.instanceMethod yX12_begins ∈ TT := tq5 129 rfl rfl
theorem q5_130 : Cond.code yX12_begins cX12_begins 2 (some .int) ∈ TT := tq5 130 rfl rfl
theorem q5_139 : Cond.methodLink RX12 162 yX12_readsItem ∈ TT := tq5 139 rfl rfl
theorem q5_141 : Cond.instanceMethod yX12_readsItem ∈ TT := tq5 141 rfl rfl
theorem q5_142 : Cond.code yX12_readsItem cX12_readsItem 2 none ∈ TT := tq5 142 rfl rfl
theorem fp_RX12_166 {p : Program} {l : Launch} {e : Env} {R : Room} {s : State} {m : MethodId} {args : Array Value} {below : List Frame} {meth : Method} {c : Code} {D : gG} {tys : List (ClassId × FieldType)} {A : Nat → Prop} {nL : Nat} {Q : State → Prop} {cells slots : Nat} {cc : ByteArray} {ws : va_W} {L : List (Nat × Value)} {pc : Nat} {stk : List Value} (cx : gX p s m args meth c cc nL RX12 D tys A) {a : Nat} {fs : List Value} {x : Int32} (q0 : Nat) (he : ws[q0]? = some (a, .inr (10, fs))) (hl : 13 < fs.length) {ws' : va_W} (hw : ws.set q0 (a, .inr (10, fs.set 13 (.int x))) = ws') (hd : decode cc pc = .ok (.putfield 166, 3)) (kk : gW p l e R s m args below meth c D A nL Q cells slots ws' L (pc + 3) stk) : gW p l e R s m args below meth c D A nL Q cells slots ws L pc (.int x :: .ref a :: stk) :=
  g_put cx (C := RX12) (T := TX12) (N := 38) (ty0 := tyX12) (ty := .int) inT12 tyX12_ok nmX12 rfl 13 (Nat.le_of_ble_eq_true rfl) q4_236 rfl rfl rfl rfl rfl q0 he hl hw hd kk
theorem fp_RX12_169 {p : Program} {l : Launch} {e : Env} {R : Room} {s : State} {m : MethodId} {args : Array Value} {below : List Frame} {meth : Method} {c : Code} {D : gG} {tys : List (ClassId × FieldType)} {A : Nat → Prop} {nL : Nat} {Q : State → Prop} {cells slots : Nat} {cc : ByteArray} {ws : va_W} {L : List (Nat × Value)} {pc : Nat} {stk : List Value} (cx : gX p s m args meth c cc nL RX12 D tys A) {a : Nat} {fs : List Value} {x : Int32} (q0 : Nat) (he : ws[q0]? = some (a, .inr (10, fs))) (hl : 14 < fs.length) {ws' : va_W} (hw : ws.set q0 (a, .inr (10, fs.set 14 (.int x))) = ws') (hd : decode cc pc = .ok (.putfield 169, 3)) (kk : gW p l e R s m args below meth c D A nL Q cells slots ws' L (pc + 3) stk) : gW p l e R s m args below meth c D A nL Q cells slots ws L pc (.int x :: .ref a :: stk) :=
  g_put cx (C := RX12) (T := TX12) (N := 38) (ty0 := tyX12) (ty := .int) inT12 tyX12_ok nmX12 rfl 14 (Nat.le_of_ble_eq_true rfl) q4_237 rfl rfl rfl rfl rfl q0 he hl hw hd kk
theorem fp_RX12_172 {p : Program} {l : Launch} {e : Env} {R : Room} {s : State} {m : MethodId} {args : Array Value} {below : List Frame} {meth : Method} {c : Code} {D : gG} {tys : List (ClassId × FieldType)} {A : Nat → Prop} {nL : Nat} {Q : State → Prop} {cells slots : Nat} {cc : ByteArray} {ws : va_W} {L : List (Nat × Value)} {pc : Nat} {stk : List Value} (cx : gX p s m args meth c cc nL RX12 D tys A) {a : Nat} {fs : List Value} {x : Int32} (q0 : Nat) (he : ws[q0]? = some (a, .inr (10, fs))) (hl : 15 < fs.length) {ws' : va_W} (hw : ws.set q0 (a, .inr (10, fs.set 15 (.int x))) = ws') (hd : decode cc pc = .ok (.putfield 172, 3)) (kk : gW p l e R s m args below meth c D A nL Q cells slots ws' L (pc + 3) stk) : gW p l e R s m args below meth c D A nL Q cells slots ws L pc (.int x :: .ref a :: stk) :=
  g_put cx (C := RX12) (T := TX12) (N := 38) (ty0 := tyX12) (ty := .int) inT12 tyX12_ok nmX12 rfl 15 (Nat.le_of_ble_eq_true rfl) q4_238 rfl rfl rfl rfl rfl q0 he hl hw hd kk
theorem fg_RX12_28 {p : Program} {l : Launch} {e : Env} {R : Room} {s : State} {m : MethodId} {args : Array Value} {below : List Frame} {meth : Method} {c : Code} {D : gG} {tys : List (ClassId × FieldType)} {A : Nat → Prop} {nL : Nat} {Q : State → Prop} {cells slots : Nat} {cc : ByteArray} {ws : va_W} {L : List (Nat × Value)} {pc : Nat} {stk : List Value} (cx : gX p s m args meth c cc nL RX12 D tys A) {a : Nat} {fs : List Value} {v : Value} (q0 : Nat) (he : ws[q0]? = some (a, .inr (10, fs))) (hv : fs[21]? = some v) (hd : decode cc pc = .ok (.getfield 28, 3)) (kk : gW p l e R s m args below meth c D A nL Q cells slots ws L (pc + 3) (v :: stk)) : gW p l e R s m args below meth c D A nL Q cells slots ws L pc (.ref a :: stk) :=
  g_get cx (C := RX12) (T := TX12) (N := 38) inT12 rfl 21 (Nat.le_of_ble_eq_true rfl) q5_4 rfl q0 he hv hd kk
theorem mg_s {p : Program} {l : Launch} {e : Env} {R : Room} {s : State} {m : MethodId} {args : Array Value} {below : List Frame} {meth : Method} {c : Code} {D : gG} {A : Nat → Prop} {nL : Nat} {Q : State → Prop} {cells slots : Nat} {cc : ByteArray} {L : List (Nat × Value)} {pc : Nat} {stk : List Value} {o : Nat → Nat} {cB cI cJ cZ : ClassId} {z : SM} (cx : gX p s m args meth c cc nL RX12 D (tyL cB cI cJ cZ) A) (hd : decode cc pc = .ok (.getfield 28, 3)) (kk : gW p l e R s m args below meth c D A nL Q cells slots (wX12 o cB cI cJ cZ z) L (pc + 3) (.ref (o 7) :: stk)) : gW p l e R s m args below meth c D A nL Q cells slots (wX12 o cB cI cJ cZ z) L pc (.ref (o 0) :: stk) :=
  fg_RX12_28 cx 0 rfl rfl hd kk
theorem fg_RX12_34 {p : Program} {l : Launch} {e : Env} {R : Room} {s : State} {m : MethodId} {args : Array Value} {below : List Frame} {meth : Method} {c : Code} {D : gG} {tys : List (ClassId × FieldType)} {A : Nat → Prop} {nL : Nat} {Q : State → Prop} {cells slots : Nat} {cc : ByteArray} {ws : va_W} {L : List (Nat × Value)} {pc : Nat} {stk : List Value} (cx : gX p s m args meth c cc nL RX12 D tys A) {a : Nat} {fs : List Value} {v : Value} (q0 : Nat) (he : ws[q0]? = some (a, .inr (10, fs))) (hv : fs[23]? = some v) (hd : decode cc pc = .ok (.getfield 34, 3)) (kk : gW p l e R s m args below meth c D A nL Q cells slots ws L (pc + 3) (v :: stk)) : gW p l e R s m args below meth c D A nL Q cells slots ws L pc (.ref a :: stk) :=
  g_get cx (C := RX12) (T := TX12) (N := 38) inT12 rfl 23 (Nat.le_of_ble_eq_true rfl) q5_6 rfl q0 he hv hd kk
theorem mg_isKept {p : Program} {l : Launch} {e : Env} {R : Room} {s : State} {m : MethodId} {args : Array Value} {below : List Frame} {meth : Method} {c : Code} {D : gG} {A : Nat → Prop} {nL : Nat} {Q : State → Prop} {cells slots : Nat} {cc : ByteArray} {L : List (Nat × Value)} {pc : Nat} {stk : List Value} {o : Nat → Nat} {cB cI cJ cZ : ClassId} {z : SM} (cx : gX p s m args meth c cc nL RX12 D (tyL cB cI cJ cZ) A) (hd : decode cc pc = .ok (.getfield 34, 3)) (kk : gW p l e R s m args below meth c D A nL Q cells slots (wX12 o cB cI cJ cZ z) L (pc + 3) (.ref (o 9) :: stk)) : gW p l e R s m args below meth c D A nL Q cells slots (wX12 o cB cI cJ cZ z) L pc (.ref (o 0) :: stk) :=
  fg_RX12_34 cx 0 rfl rfl hd kk
theorem ms_isKept {p : Program} {l : Launch} {e : Env} {R : Room} {s : State} {m : MethodId} {args : Array Value} {below : List Frame} {meth : Method} {c : Code} {D : gG} {A : Nat → Prop} {nL : Nat} {Q : State → Prop} {cells slots : Nat} {cc : ByteArray} {L : List (Nat × Value)} {pc : Nat} {stk : List Value} {β : Type} {r : β} {o : Nat → Nat} {cB cI cJ cZ : ClassId} {z : SM} (cx : gX p s m args meth c cc nL RX12 D (tyL cB cI cJ cZ) A) {i : Int32} {x : Int32} {kf : SM → Option β} (hf : ((aset 2 (mA z 23) i (vp_nar .boolean x)).bind fun f => nm (mAs z 23 f) kf) = some r) (hd : decode cc pc = .ok (.bastore, 1)) (kk : ∀ y : SM, kf y = some r → gW p l e R s m args below meth c D A nL Q cells slots (wX12 o cB cI cJ cZ y) L (pc + 1) stk) : gW p l e R s m args below meth c D A nL Q cells slots (wX12 o cB cI cJ cZ z) L pc (.int x :: .int i :: .ref (o 9) :: stk) :=
  g_zast cx 9 3 (ws' := fun f => wX12 o cB cI cJ cZ (mAs z 23 f)) hf rfl rfl (fun _ => rfl) hd (fun _ hf => kk _ hf)
theorem ms_s {p : Program} {l : Launch} {e : Env} {R : Room} {s : State} {m : MethodId} {args : Array Value} {below : List Frame} {meth : Method} {c : Code} {D : gG} {A : Nat → Prop} {nL : Nat} {Q : State → Prop} {cells slots : Nat} {cc : ByteArray} {L : List (Nat × Value)} {pc : Nat} {stk : List Value} {β : Type} {r : β} {o : Nat → Nat} {cB cI cJ cZ : ClassId} {z : SM} (cx : gX p s m args meth c cc nL RX12 D (tyL cB cI cJ cZ) A) {i : Int32} {x : Int32} {kf : SM → Option β} (hf : ((aset 25 (mA z 21) i x).bind fun f => nm (mAs z 21 f) kf) = some r) (hd : decode cc pc = .ok (.iastore, 1)) (kk : ∀ y : SM, kf y = some r → gW p l e R s m args below meth c D A nL Q cells slots (wX12 o cB cI cJ cZ y) L (pc + 1) stk) : gW p l e R s m args below meth c D A nL Q cells slots (wX12 o cB cI cJ cZ z) L pc (.int x :: .int i :: .ref (o 7) :: stk) :=
  g_iast cx 7 1 (ws' := fun f => wX12 o cB cI cJ cZ (mAs z 21 f)) hf rfl rfl (fun _ => rfl) hd (fun _ hf => kk _ hf)
theorem mp_stocks {p : Program} {l : Launch} {e : Env} {R : Room} {s : State} {m : MethodId} {args : Array Value} {below : List Frame} {meth : Method} {c : Code} {D : gG} {A : Nat → Prop} {nL : Nat} {Q : State → Prop} {cells slots : Nat} {cc : ByteArray} {L : List (Nat × Value)} {pc : Nat} {stk : List Value} {β : Type} {r : β} {o : Nat → Nat} {cB cI cJ cZ : ClassId} {z : SM} (cx : gX p s m args meth c cc nL RX12 D (tyL cB cI cJ cZ) A) {x : Int32} {kf : SM → Option β} (hf : nm (mIs z 15 x) kf = some r) (hd : decode cc pc = .ok (.putfield 172, 3)) (kk : ∀ y : SM, kf y = some r → gW p l e R s m args below meth c D A nL Q cells slots (wX12 o cB cI cJ cZ y) L (pc + 3) stk) : gW p l e R s m args below meth c D A nL Q cells slots (wX12 o cB cI cJ cZ z) L pc (.int x :: .ref (o 0) :: stk) :=
  fp_RX12_172 cx 0 rfl (Nat.le_of_ble_eq_true rfl) (ws' := wX12 o cB cI cJ cZ (mIs z 15 x)) rfl hd (kk _ hf)
theorem mp_forms {p : Program} {l : Launch} {e : Env} {R : Room} {s : State} {m : MethodId} {args : Array Value} {below : List Frame} {meth : Method} {c : Code} {D : gG} {A : Nat → Prop} {nL : Nat} {Q : State → Prop} {cells slots : Nat} {cc : ByteArray} {L : List (Nat × Value)} {pc : Nat} {stk : List Value} {β : Type} {r : β} {o : Nat → Nat} {cB cI cJ cZ : ClassId} {z : SM} (cx : gX p s m args meth c cc nL RX12 D (tyL cB cI cJ cZ) A) {x : Int32} {kf : SM → Option β} (hf : nm (mIs z 14 x) kf = some r) (hd : decode cc pc = .ok (.putfield 169, 3)) (kk : ∀ y : SM, kf y = some r → gW p l e R s m args below meth c D A nL Q cells slots (wX12 o cB cI cJ cZ y) L (pc + 3) stk) : gW p l e R s m args below meth c D A nL Q cells slots (wX12 o cB cI cJ cZ z) L pc (.int x :: .ref (o 0) :: stk) :=
  fp_RX12_169 cx 0 rfl (Nat.le_of_ble_eq_true rfl) (ws' := wX12 o cB cI cJ cZ (mIs z 14 x)) rfl hd (kk _ hf)
theorem mp_words {p : Program} {l : Launch} {e : Env} {R : Room} {s : State} {m : MethodId} {args : Array Value} {below : List Frame} {meth : Method} {c : Code} {D : gG} {A : Nat → Prop} {nL : Nat} {Q : State → Prop} {cells slots : Nat} {cc : ByteArray} {L : List (Nat × Value)} {pc : Nat} {stk : List Value} {β : Type} {r : β} {o : Nat → Nat} {cB cI cJ cZ : ClassId} {z : SM} (cx : gX p s m args meth c cc nL RX12 D (tyL cB cI cJ cZ) A) {x : Int32} {kf : SM → Option β} (hf : nm (mIs z 13 x) kf = some r) (hd : decode cc pc = .ok (.putfield 166, 3)) (kk : ∀ y : SM, kf y = some r → gW p l e R s m args below meth c D A nL Q cells slots (wX12 o cB cI cJ cZ y) L (pc + 3) stk) : gW p l e R s m args below meth c D A nL Q cells slots (wX12 o cB cI cJ cZ z) L pc (.int x :: .ref (o 0) :: stk) :=
  fp_RX12_166 cx 0 rfl (Nat.le_of_ble_eq_true rfl) (ws' := wX12 o cB cI cJ cZ (mIs z 13 x)) rfl hd (kk _ hf)
theorem ml_draftLine {p : Program} {l : Launch} {e : Env} {R : Room} {s : State} {m : MethodId} {args : Array Value} {below : List Frame} {meth : Method} {c : Code} {D : gG} {A : Nat → Prop} {nL : Nat} {Q : State → Prop} {cells slots : Nat} {cc : ByteArray} {L : List (Nat × Value)} {pc : Nat} {stk : List Value} {β : Type} {r : β} {o : Nat → Nat} {cB cI cJ cZ : ClassId} {z : SM} (cx : gX p s m args meth c cc nL RX12 D (tyL cB cI cJ cZ) A) {i : Int32} {kf : Int32 → Option β} (hf : (aget 24 (mA z 20) i).bind kf = some r) (hd : decode cc pc = .ok (.iaload, 1)) (kk : ∀ v : Int32, kf v = some r → gW p l e R s m args below meth c D A nL Q cells slots (wX12 o cB cI cJ cZ z) L (pc + 1) (.int v :: stk)) : gW p l e R s m args below meth c D A nL Q cells slots (wX12 o cB cI cJ cZ z) L pc (.int i :: .ref (o 6) :: stk) :=
  g_iald cx 6 1 hf rfl rfl hd kk
theorem ml_metre {p : Program} {l : Launch} {e : Env} {R : Room} {s : State} {m : MethodId} {args : Array Value} {below : List Frame} {meth : Method} {c : Code} {D : gG} {A : Nat → Prop} {nL : Nat} {Q : State → Prop} {cells slots : Nat} {cc : ByteArray} {L : List (Nat × Value)} {pc : Nat} {stk : List Value} {β : Type} {r : β} {o : Nat → Nat} {cB cI cJ cZ : ClassId} {z : SM} (cx : gX p s m args meth c cc nL RX12 D (tyL cB cI cJ cZ) A) {i : Int32} {kf : Int32 → Option β} (hf : (aget 16 (mA z 11) i).bind kf = some r) (hd : decode cc pc = .ok (.iaload, 1)) (kk : ∀ v : Int32, kf v = some r → gW p l e R s m args below meth c D A nL Q cells slots (wX12 o cB cI cJ cZ z) L (pc + 1) (.int v :: stk)) : gW p l e R s m args below meth c D A nL Q cells slots (wX12 o cB cI cJ cZ z) L pc (.int i :: .ref (o 4) :: stk) :=
  g_iald cx 4 1 hf rfl rfl hd kk
theorem ml_stock {p : Program} {l : Launch} {e : Env} {R : Room} {s : State} {m : MethodId} {args : Array Value} {below : List Frame} {meth : Method} {c : Code} {D : gG} {A : Nat → Prop} {nL : Nat} {Q : State → Prop} {cells slots : Nat} {cc : ByteArray} {L : List (Nat × Value)} {pc : Nat} {stk : List Value} {β : Type} {r : β} {o : Nat → Nat} {cB cI cJ cZ : ClassId} {z : SM} (cx : gX p s m args meth c cc nL RX12 D (tyL cB cI cJ cZ) A) {i : Int32} {kf : Int32 → Option β} (hf : (aget 36 (mA z 12) i).bind kf = some r) (hd : decode cc pc = .ok (.iaload, 1)) (kk : ∀ v : Int32, kf v = some r → gW p l e R s m args below meth c D A nL Q cells slots (wX12 o cB cI cJ cZ z) L (pc + 1) (.int v :: stk)) : gW p l e R s m args below meth c D A nL Q cells slots (wX12 o cB cI cJ cZ z) L pc (.int i :: .ref (o 5) :: stk) :=
  g_iald cx 5 1 hf rfl rfl hd kk
theorem ml_word {p : Program} {l : Launch} {e : Env} {R : Room} {s : State} {m : MethodId} {args : Array Value} {below : List Frame} {meth : Method} {c : Code} {D : gG} {A : Nat → Prop} {nL : Nat} {Q : State → Prop} {cells slots : Nat} {cc : ByteArray} {L : List (Nat × Value)} {pc : Nat} {stk : List Value} {β : Type} {r : β} {o : Nat → Nat} {cB cI cJ cZ : ClassId} {z : SM} (cx : gX p s m args meth c cc nL RX12 D (tyL cB cI cJ cZ) A) {i : Int32} {kf : Int32 → Option β} (hf : (aget 128 (mA z 9) i).bind kf = some r) (hd : decode cc pc = .ok (.iaload, 1)) (kk : ∀ v : Int32, kf v = some r → gW p l e R s m args below meth c D A nL Q cells slots (wX12 o cB cI cJ cZ z) L (pc + 1) (.int v :: stk)) : gW p l e R s m args below meth c D A nL Q cells slots (wX12 o cB cI cJ cZ z) L pc (.int i :: .ref (o 2) :: stk) :=
  g_iald cx 2 1 hf rfl rfl hd kk
theorem lk_RX12_162 : vlk RX12 162 yX12_readsItem cX12_readsItem 2 none 1 := ⟨List.forall_mem_cons.mpr ⟨q5_139, List.forall_mem_cons.mpr ⟨q5_141, List.forall_mem_cons.mpr ⟨q0_33, List.forall_mem_cons.mpr ⟨q1_12, fun _ h => absurd h List.not_mem_nil⟩⟩⟩⟩, q5_142, by decide, by decide, by decide +kernel⟩
theorem lk_RX12_158 : vlk RX12 158 yX12_begins cX12_begins 2 (some .int) 0 := ⟨List.forall_mem_cons.mpr ⟨q5_127, List.forall_mem_cons.mpr ⟨q5_129, List.forall_mem_cons.mpr ⟨q0_30, List.forall_mem_cons.mpr ⟨q1_12, fun _ h => absurd h List.not_mem_nil⟩⟩⟩⟩, q5_130, by decide, by decide, by decide +kernel⟩
def F_X12_read_b338 : Nat → Int32 → Int32 → SM → Option (Int32 × SM)
  | 0, _, _, _ => none
  | n + 1, v1, v2, zs_o => (if 24 ≤ v2 then nm (mIs zs_o 13 (mI zs_o 16)) fun s_o_1 => nm (mIs s_o_1 14 (mI s_o_1 17)) fun s_o_2 => nm (mIs s_o_2 15 (mI s_o_2 18)) fun s_o_3 => (aset 25 (mA s_o_3 21) 0 (mI s_o_3 19)).bind fun f_4 => nm (mAs s_o_3 21 f_4) fun s_o_5 => nm (mIs s_o_5 3 0) fun s_o_6 => (aset 2 (mA s_o_6 23) 0 (vp_nar .boolean 0)).bind fun f_7 => nm (mAs s_o_6 23 f_7) fun s_o_8 => (aset 2 (mA s_o_8 23) 1 (vp_nar .boolean 0)).bind fun f_9 => nm (mAs s_o_8 23 f_9) fun s_o_10 => some (v1, s_o_10) else (aget 24 (mA zs_o 20) v2).bind fun e_11 => (aset 25 (mA zs_o 21) (1 + v2) e_11).bind fun f_12 => nm (mAs zs_o 21 f_12) fun s_o_13 => nm (v2 + 1) fun v2_14 => (F_X12_read_b338  n) v1 v2_14 s_o_13)
def F_X12_read_b309 : Nat → Int32 → Int32 → SM → Option (Int32 × SM)
  | 0, _, _, _ => none
  | n + 1, v1, v2, zs_o => (if 8 ≤ v2 then nm 0 fun v2_15 => F_X12_read_b338  fu v1 v2_15 zs_o else (aget 16 (mA zs_o 11) (8 + v2)).bind fun e_16 => (aset 16 (mA zs_o 11) v2 e_16).bind fun f_17 => nm (mAs zs_o 11 f_17) fun s_o_18 => nm (v2 + 1) fun v2_19 => (F_X12_read_b309  n) v1 v2_19 s_o_18)
def F_X12_read_b265 : Nat → Int32 → Int32 → SM → Option (Int32 × SM)
  | 0, _, _, _ => none
  | n + 1, v1, v2, zs_o => (if 18 ≤ v2 then nm 0 fun v2_20 => F_X12_read_b309  fu v1 v2_20 zs_o else (aget 36 (mA zs_o 10) (18 + v2)).bind fun e_21 => (aset 36 (mA zs_o 10) v2 e_21).bind fun f_22 => nm (mAs zs_o 10 f_22) fun s_o_23 => (aget 36 (mA s_o_23 12) (18 + v2)).bind fun e_24 => (aset 36 (mA s_o_23 12) v2 e_24).bind fun f_25 => nm (mAs s_o_23 12 f_25) fun s_o_26 => nm (v2 + 1) fun v2_27 => (F_X12_read_b265  n) v1 v2_27 s_o_26)
def F_X12_read_b236 : Nat → Int32 → Int32 → SM → Option (Int32 × SM)
  | 0, _, _, _ => none
  | n + 1, v1, v2, zs_o => (if 64 ≤ v2 then nm 0 fun v2_28 => F_X12_read_b265  fu v1 v2_28 zs_o else (aget 128 (mA zs_o 9) (64 + v2)).bind fun e_29 => (aset 128 (mA zs_o 9) v2 e_29).bind fun f_30 => nm (mAs zs_o 9 f_30) fun s_o_31 => nm (v2 + 1) fun v2_32 => (F_X12_read_b236  n) v1 v2_32 s_o_31)
def F_X12_read_b219 (v1 : Int32) (zs_o : SM) : Option (Int32 × SM) := (F_X12_isWell zs_o).bind fun q_33 => (if q_33 = 0 then some (((-10) - (mI zs_o 8)), zs_o) else nm 0 fun v2_34 => F_X12_read_b236  fu v1 v2_34 zs_o)
def F_X12_read_b213 (K63 : Int32 → SM → Option (Int32 × SM)) (v1 : Int32) (zs_o : SM) : Option (Int32 × SM) := nm (v1 + 1) fun v1_35 => K63 v1_35 zs_o
def F_X12_read_b199 (K63 : Int32 → SM → Option (Int32 × SM)) (v1 : Int32) (zs_o : SM) (k1 : Int32) : Option (Int32 × SM) := (F_X12_wants zs_o k1).bind fun q_36 => (F_X12_isWell q_36).bind fun q_37 => (if q_37 = 0 then F_X12_read_b213  K63 v1 q_36 else (F_X12_advances q_36).bind fun q_38 => F_X12_read_b213  K63 v1 q_38)
def F_X12_read_b185 (K63 : Int32 → SM → Option (Int32 × SM)) (v1 : Int32) (zs_o : SM) : Option (Int32 × SM) := (if (mI zs_o 5) = 3 then F_X12_read_b199  K63 v1 zs_o 1 else F_X12_read_b199  K63 v1 zs_o 0)
def F_X12_read_b166 (K63 : Int32 → SM → Option (Int32 × SM)) (v1 : Int32) (v2 : Int32) (zs_o : SM) (k1 : Int32) : Option (Int32 × SM) := (F_X12_wants zs_o k1).bind fun q_39 => (F_X12_isWell q_39).bind fun q_40 => (if q_40 = 0 then F_X12_read_b185  K63 v1 q_39 else (F_X12_advances q_39).bind fun q_41 => (F_X12_readsItem q_41 v2).bind fun q_42 => F_X12_read_b185  K63 v1 q_42)
def F_X12_read_b161 (K63 : Int32 → SM → Option (Int32 × SM)) (v1 : Int32) (v2 : Int32) (zs_o : SM) : Option (Int32 × SM) := F_X12_read_b166  K63 v1 v2 zs_o 1
def F_X12_read_b165 (K63 : Int32 → SM → Option (Int32 × SM)) (v1 : Int32) (v2 : Int32) (zs_o : SM) : Option (Int32 × SM) := F_X12_read_b166  K63 v1 v2 zs_o 0
def F_X12_read_b63 : Nat → Int32 → SM → Option (Int32 × SM)
  | 0, _, _ => none
  | n + 1, v1, zs_o => (F_X12_isWell zs_o).bind fun q_43 => (if q_43 = 0 then F_X12_read_b219  v1 zs_o else (if (mI zs_o 5) = 0 then F_X12_read_b219  v1 zs_o else (F_X12_begins zs_o).bind fun q_44 => nm q_44 fun v2_45 => (if v2_45 = 0 then (if 16 ≤ (mI zs_o 16) then F_X12_read_b166  (F_X12_read_b63  n) v1 v2_45 zs_o 0 else F_X12_read_b166  (F_X12_read_b63  n) v1 v2_45 zs_o 1) else (if v2_45 = 1 then (if 2 ≤ (mI zs_o 17) then F_X12_read_b166  (F_X12_read_b63  n) v1 v2_45 zs_o 0 else F_X12_read_b166  (F_X12_read_b63  n) v1 v2_45 zs_o 1) else (if v2_45 = 2 then F_X12_read_b161  (F_X12_read_b63  n) v1 v2_45 zs_o else (if v2_45 = 3 then (if 8 ≤ (mI zs_o 19) then F_X12_read_b165  (F_X12_read_b63  n) v1 v2_45 zs_o else F_X12_read_b161  (F_X12_read_b63  n) v1 v2_45 zs_o) else (if v2_45 = 4 then (if 6 ≤ (mI zs_o 18) then F_X12_read_b165  (F_X12_read_b63  n) v1 v2_45 zs_o else F_X12_read_b161  (F_X12_read_b63  n) v1 v2_45 zs_o) else F_X12_read_b165  (F_X12_read_b63  n) v1 v2_45 zs_o)))))))
def F_X12_read_b40 : Nat → Int32 → Int32 → SM → Option (Int32 × SM)
  | 0, _, _, _ => none
  | n + 1, v1, v2, zs_o => (if 16 ≤ v2 then (F_X12_advances zs_o).bind fun q_46 => F_X12_read_b63  fu v1 q_46 else (aset 16 (mA zs_o 11) v2 0).bind fun f_47 => nm (mAs zs_o 11 f_47) fun s_o_48 => nm (v2 + 1) fun v2_49 => (F_X12_read_b40  n) v1 v2_49 s_o_48)
def F_X12_read (s_o : SM) : Option (Int32 × SM) := nm (mIs s_o 0 0) fun s_o_50 => nm (mIs s_o_50 8 (-1)) fun s_o_51 => nm (mIs s_o_51 4 0) fun s_o_52 => nm 0 fun v1_53 => nm (mIs s_o_52 16 0) fun s_o_54 => nm (mIs s_o_54 17 0) fun s_o_55 => nm (mIs s_o_55 19 0) fun s_o_56 => nm (mIs s_o_56 18 0) fun s_o_57 => nm 8 fun v2_58 => F_X12_read_b40  fu v1_53 v2_58 s_o_57

abbrev rm_X12_read : Room := { frames := 5, cells := 0, slots := 0, locals := 109 }
set_option maxHeartbeats 4000000 in
set_option maxRecDepth 100000 in
theorem c_X12_read (l : Launch) (D : gG) (cB cI cJ cZ : ClassId) (o : Nat → Nat) (s_o : SM) (r : Int32 × SM) (hf : F_X12_read s_o = some r) : gM l D (tyL cB cI cJ cZ) yX12_read cX12_read 3 (some .int) rm_X12_read [.ref (o 0)] (wX12 o cB cI cJ cZ s_o) (some (.int r.1)) (wX12 o cB cI cJ cZ r.2) := by
  refine met_of (by decide) (Nat.le_of_ble_eq_true rfl) ?_
  intro p e s m args below meth c A cx hr hA
  show gW p l e rm_X12_read s m args below meth c D A 3 _ 0 0 _ [(0, .ref (o 0))] 0 []
  have h338 : ∀ (n : Nat) (v1 : Int32) (v2 : Int32) (zs_o : SM), F_X12_read_b338  n v1 v2 zs_o = some r → gW p l e rm_X12_read s m args below meth c D A 3 (MQ below (QM D (tyL cB cI cJ cZ) (some (.int r.1)) (wX12 o cB cI cJ cZ s_o) (wX12 o cB cI cJ cZ r.2) s.heap.size) args s 0 0 A) 0 0 (wX12 o cB cI cJ cZ zs_o) [(0, .ref (o 0)), (1, .int v1), (2, .int v2)] 338 [] := by
    intro n
    induction n with
    | zero => intro v1 v2 zs_o hf; rw [F_X12_read_b338] at hf; cases hf
    | succ n ih =>
      intro v1 v2 zs_o hf
      rw [F_X12_read_b338] at hf
      refine g_iln cx 2 dX12_read_338 rfl ?_
      refine g_bp cx dX12_read_339 k_bp24 ?_
      refine g_ic_ge (tgt := 364) cx hf dX12_read_341 rfl (fun hf => ?_) (fun hf => ?_)
      · refine g_aln cx 0 dX12_read_364 rfl ?_
        refine g_aln cx 0 dX12_read_365 rfl ?_
        refine mg_draftWords cx dX12_read_366 ?_
        refine mp_words cx hf dX12_read_369 (fun s_o_1 hf => ?_)
        refine g_aln cx 0 dX12_read_372 rfl ?_
        refine g_aln cx 0 dX12_read_373 rfl ?_
        refine mg_draftForms cx dX12_read_374 ?_
        refine mp_forms cx hf dX12_read_377 (fun s_o_2 hf => ?_)
        refine g_aln cx 0 dX12_read_380 rfl ?_
        refine g_aln cx 0 dX12_read_381 rfl ?_
        refine mg_draftStocks cx dX12_read_382 ?_
        refine mp_stocks cx hf dX12_read_385 (fun s_o_3 hf => ?_)
        refine g_aln cx 0 dX12_read_388 rfl ?_
        refine mg_s cx dX12_read_389 ?_
        refine g_ic cx dX12_read_392 k_ic0 ?_
        refine g_aln cx 0 dX12_read_393 rfl ?_
        refine mg_draftLines cx dX12_read_394 ?_
        refine ms_s cx hf dX12_read_397 (fun s_o_5 hf => ?_)
        refine g_aln cx 0 dX12_read_398 rfl ?_
        refine g_ic cx dX12_read_399 k_ic0 ?_
        refine mp_typed cx hf dX12_read_400 (fun s_o_6 hf => ?_)
        refine g_aln cx 0 dX12_read_403 rfl ?_
        refine mg_isKept cx dX12_read_404 ?_
        refine g_ic cx dX12_read_407 k_ic0 ?_
        refine g_ic cx dX12_read_408 k_ic0 ?_
        refine ms_isKept cx hf dX12_read_409 (fun s_o_8 hf => ?_)
        refine g_aln cx 0 dX12_read_410 rfl ?_
        refine mg_isKept cx dX12_read_411 ?_
        refine g_ic cx dX12_read_414 k_ic1 ?_
        refine g_ic cx dX12_read_415 k_ic0 ?_
        refine ms_isKept cx hf dX12_read_416 (fun s_o_10 hf => ?_)
        refine g_iln cx 1 dX12_read_417 rfl ?_
        exact g_iret (ovf := fun (r : Int32 × SM) => (some (.int r.1))) (wf := fun (r : Int32 × SM) => (wX12 o cB cI cJ cZ r.2)) cx hA hr hf rfl rfl dX12_read_418
      · refine g_aln cx 0 dX12_read_344 rfl ?_
        refine mg_s cx dX12_read_345 ?_
        refine g_ic cx dX12_read_348 k_ic1 ?_
        refine g_iln cx 2 dX12_read_349 rfl ?_
        refine g_iadd cx dX12_read_350 ?_
        refine g_aln cx 0 dX12_read_351 rfl ?_
        refine mg_draftLine cx dX12_read_352 ?_
        refine g_iln cx 2 dX12_read_355 rfl ?_
        refine ml_draftLine cx hf dX12_read_356 (fun e_11 hf => ?_)
        refine ms_s cx hf dX12_read_357 (fun s_o_13 hf => ?_)
        refine g_inc cx (L2 := fun v2_14 => [(2, .int v2_14), (0, .ref (o 0)), (1, .int v1)]) 2 hf dX12_read_358 rfl (k_inc1 _) (Nat.le_of_ble_eq_true rfl) (fun _ => rfl) (fun v2_14 hf => ?_)
        refine g_goto (tgt := 338) cx dX12_read_361 rfl ?_
        refine g_sub [1, 2, 0] rfl ?_
        exact ih _ _ _ hf
  have h309 : ∀ (n : Nat) (v1 : Int32) (v2 : Int32) (zs_o : SM), F_X12_read_b309  n v1 v2 zs_o = some r → gW p l e rm_X12_read s m args below meth c D A 3 (MQ below (QM D (tyL cB cI cJ cZ) (some (.int r.1)) (wX12 o cB cI cJ cZ s_o) (wX12 o cB cI cJ cZ r.2) s.heap.size) args s 0 0 A) 0 0 (wX12 o cB cI cJ cZ zs_o) [(0, .ref (o 0)), (1, .int v1), (2, .int v2)] 309 [] := by
    intro n
    induction n with
    | zero => intro v1 v2 zs_o hf; rw [F_X12_read_b309] at hf; cases hf
    | succ n ih =>
      intro v1 v2 zs_o hf
      rw [F_X12_read_b309] at hf
      refine g_iln cx 2 dX12_read_309 rfl ?_
      refine g_bp cx dX12_read_310 k_bp8 ?_
      refine g_ic_ge (tgt := 336) cx hf dX12_read_312 rfl (fun hf => ?_) (fun hf => ?_)
      · refine g_ic cx dX12_read_336 k_ic0 ?_
        refine g_isn cx (L2 := fun v2_15 => [(2, .int v2_15), (0, .ref (o 0)), (1, .int v1)]) hf dX12_read_337 (Nat.le_of_ble_eq_true rfl) (fun _ => rfl) (fun v2_15 hf => ?_)
        refine g_sub [1, 2, 0] rfl ?_
        exact h338 fu _ _ _ hf
      · refine g_aln cx 0 dX12_read_315 rfl ?_
        refine mg_metre cx dX12_read_316 ?_
        refine g_iln cx 2 dX12_read_319 rfl ?_
        refine g_aln cx 0 dX12_read_320 rfl ?_
        refine mg_metre cx dX12_read_321 ?_
        refine g_bp cx dX12_read_324 k_bp8 ?_
        refine g_iln cx 2 dX12_read_326 rfl ?_
        refine g_iadd cx dX12_read_327 ?_
        refine ml_metre cx hf dX12_read_328 (fun e_16 hf => ?_)
        refine ms_metre cx hf dX12_read_329 (fun s_o_18 hf => ?_)
        refine g_inc cx (L2 := fun v2_19 => [(2, .int v2_19), (0, .ref (o 0)), (1, .int v1)]) 2 hf dX12_read_330 rfl (k_inc1 _) (Nat.le_of_ble_eq_true rfl) (fun _ => rfl) (fun v2_19 hf => ?_)
        refine g_goto (tgt := 309) cx dX12_read_333 rfl ?_
        refine g_sub [1, 2, 0] rfl ?_
        exact ih _ _ _ hf
  have h265 : ∀ (n : Nat) (v1 : Int32) (v2 : Int32) (zs_o : SM), F_X12_read_b265  n v1 v2 zs_o = some r → gW p l e rm_X12_read s m args below meth c D A 3 (MQ below (QM D (tyL cB cI cJ cZ) (some (.int r.1)) (wX12 o cB cI cJ cZ s_o) (wX12 o cB cI cJ cZ r.2) s.heap.size) args s 0 0 A) 0 0 (wX12 o cB cI cJ cZ zs_o) [(0, .ref (o 0)), (1, .int v1), (2, .int v2)] 265 [] := by
    intro n
    induction n with
    | zero => intro v1 v2 zs_o hf; rw [F_X12_read_b265] at hf; cases hf
    | succ n ih =>
      intro v1 v2 zs_o hf
      rw [F_X12_read_b265] at hf
      refine g_iln cx 2 dX12_read_265 rfl ?_
      refine g_bp cx dX12_read_266 k_bp18 ?_
      refine g_ic_ge (tgt := 307) cx hf dX12_read_268 rfl (fun hf => ?_) (fun hf => ?_)
      · refine g_ic cx dX12_read_307 k_ic0 ?_
        refine g_isn cx (L2 := fun v2_20 => [(2, .int v2_20), (0, .ref (o 0)), (1, .int v1)]) hf dX12_read_308 (Nat.le_of_ble_eq_true rfl) (fun _ => rfl) (fun v2_20 hf => ?_)
        refine g_sub [1, 2, 0] rfl ?_
        exact h309 fu _ _ _ hf
      · refine g_aln cx 0 dX12_read_271 rfl ?_
        refine mg_form cx dX12_read_272 ?_
        refine g_iln cx 2 dX12_read_275 rfl ?_
        refine g_aln cx 0 dX12_read_276 rfl ?_
        refine mg_form cx dX12_read_277 ?_
        refine g_bp cx dX12_read_280 k_bp18 ?_
        refine g_iln cx 2 dX12_read_282 rfl ?_
        refine g_iadd cx dX12_read_283 ?_
        refine ml_form cx hf dX12_read_284 (fun e_21 hf => ?_)
        refine ms_form cx hf dX12_read_285 (fun s_o_23 hf => ?_)
        refine g_aln cx 0 dX12_read_286 rfl ?_
        refine mg_stock cx dX12_read_287 ?_
        refine g_iln cx 2 dX12_read_290 rfl ?_
        refine g_aln cx 0 dX12_read_291 rfl ?_
        refine mg_stock cx dX12_read_292 ?_
        refine g_bp cx dX12_read_295 k_bp18 ?_
        refine g_iln cx 2 dX12_read_297 rfl ?_
        refine g_iadd cx dX12_read_298 ?_
        refine ml_stock cx hf dX12_read_299 (fun e_24 hf => ?_)
        refine ms_stock cx hf dX12_read_300 (fun s_o_26 hf => ?_)
        refine g_inc cx (L2 := fun v2_27 => [(2, .int v2_27), (0, .ref (o 0)), (1, .int v1)]) 2 hf dX12_read_301 rfl (k_inc1 _) (Nat.le_of_ble_eq_true rfl) (fun _ => rfl) (fun v2_27 hf => ?_)
        refine g_goto (tgt := 265) cx dX12_read_304 rfl ?_
        refine g_sub [1, 2, 0] rfl ?_
        exact ih _ _ _ hf
  have h236 : ∀ (n : Nat) (v1 : Int32) (v2 : Int32) (zs_o : SM), F_X12_read_b236  n v1 v2 zs_o = some r → gW p l e rm_X12_read s m args below meth c D A 3 (MQ below (QM D (tyL cB cI cJ cZ) (some (.int r.1)) (wX12 o cB cI cJ cZ s_o) (wX12 o cB cI cJ cZ r.2) s.heap.size) args s 0 0 A) 0 0 (wX12 o cB cI cJ cZ zs_o) [(0, .ref (o 0)), (1, .int v1), (2, .int v2)] 236 [] := by
    intro n
    induction n with
    | zero => intro v1 v2 zs_o hf; rw [F_X12_read_b236] at hf; cases hf
    | succ n ih =>
      intro v1 v2 zs_o hf
      rw [F_X12_read_b236] at hf
      refine g_iln cx 2 dX12_read_236 rfl ?_
      refine g_bp cx dX12_read_237 k_bp64 ?_
      refine g_ic_ge (tgt := 263) cx hf dX12_read_239 rfl (fun hf => ?_) (fun hf => ?_)
      · refine g_ic cx dX12_read_263 k_ic0 ?_
        refine g_isn cx (L2 := fun v2_28 => [(2, .int v2_28), (0, .ref (o 0)), (1, .int v1)]) hf dX12_read_264 (Nat.le_of_ble_eq_true rfl) (fun _ => rfl) (fun v2_28 hf => ?_)
        refine g_sub [1, 2, 0] rfl ?_
        exact h265 fu _ _ _ hf
      · refine g_aln cx 0 dX12_read_242 rfl ?_
        refine mg_word cx dX12_read_243 ?_
        refine g_iln cx 2 dX12_read_246 rfl ?_
        refine g_aln cx 0 dX12_read_247 rfl ?_
        refine mg_word cx dX12_read_248 ?_
        refine g_bp cx dX12_read_251 k_bp64 ?_
        refine g_iln cx 2 dX12_read_253 rfl ?_
        refine g_iadd cx dX12_read_254 ?_
        refine ml_word cx hf dX12_read_255 (fun e_29 hf => ?_)
        refine ms_word cx hf dX12_read_256 (fun s_o_31 hf => ?_)
        refine g_inc cx (L2 := fun v2_32 => [(2, .int v2_32), (0, .ref (o 0)), (1, .int v1)]) 2 hf dX12_read_257 rfl (k_inc1 _) (Nat.le_of_ble_eq_true rfl) (fun _ => rfl) (fun v2_32 hf => ?_)
        refine g_goto (tgt := 236) cx dX12_read_260 rfl ?_
        refine g_sub [1, 2, 0] rfl ?_
        exact ih _ _ _ hf
  have h219 : ∀ (v1 : Int32) (zs_o : SM), F_X12_read_b219  v1 zs_o = some r → gW p l e rm_X12_read s m args below meth c D A 3 (MQ below (QM D (tyL cB cI cJ cZ) (some (.int r.1)) (wX12 o cB cI cJ cZ s_o) (wX12 o cB cI cJ cZ r.2) s.heap.size) args s 0 0 A) 0 0 (wX12 o cB cI cJ cZ zs_o) [(0, .ref (o 0)), (1, .int v1)] 219 [] := by
    intro v1 zs_o hf
    rw [F_X12_read_b219] at hf
    refine g_aln cx 0 dX12_read_219 rfl ?_
    refine ob hf (fun q_33 hq_33 hf => ?_)
    refine g_callVFi cx lk_RX12_110 (c_X12_isWell l D cB cI cJ cZ o zs_o q_33 hq_33) rfl (ci := 10) (q1 := 0) rfl rfl rfl (Nat.le_of_ble_eq_true rfl) ⟨rfl, rfl, Nat.le_of_ble_eq_true rfl, Nat.le_of_ble_eq_true rfl⟩ dX12_read_220 ?_
    refine g_if_ne (tgt := 234) cx hf dX12_read_223 rfl (fun hf => ?_) (fun hf => ?_)
    · refine g_ic cx dX12_read_234 k_ic0 ?_
      refine g_isn cx (L2 := fun v2_34 => [(2, .int v2_34), (0, .ref (o 0)), (1, .int v1)]) hf dX12_read_235 (Nat.le_of_ble_eq_true rfl) (fun _ => rfl) (fun v2_34 hf => ?_)
      refine g_sub [1, 2, 0] rfl ?_
      exact h236 fu _ _ _ hf
    · refine g_bp cx dX12_read_226 k_bpm10 ?_
      refine g_aln cx 0 dX12_read_228 rfl ?_
      refine mg_fault cx dX12_read_229 ?_
      refine g_isub cx dX12_read_232 ?_
      exact g_iret (ovf := fun (r : Int32 × SM) => (some (.int r.1))) (wf := fun (r : Int32 × SM) => (wX12 o cB cI cJ cZ r.2)) cx hA hr hf rfl rfl dX12_read_233
  have h213 : ∀ (K63 : Int32 → SM → Option (Int32 × SM)), (∀ (v1 : Int32) (zs_o : SM), K63 v1 zs_o = some r → gW p l e rm_X12_read s m args below meth c D A 3 (MQ below (QM D (tyL cB cI cJ cZ) (some (.int r.1)) (wX12 o cB cI cJ cZ s_o) (wX12 o cB cI cJ cZ r.2) s.heap.size) args s 0 0 A) 0 0 (wX12 o cB cI cJ cZ zs_o) [(0, .ref (o 0)), (1, .int v1)] 63 []) → ∀ (v1 : Int32) (zs_o : SM), F_X12_read_b213  K63 v1 zs_o = some r → gW p l e rm_X12_read s m args below meth c D A 3 (MQ below (QM D (tyL cB cI cJ cZ) (some (.int r.1)) (wX12 o cB cI cJ cZ s_o) (wX12 o cB cI cJ cZ r.2) s.heap.size) args s 0 0 A) 0 0 (wX12 o cB cI cJ cZ zs_o) [(0, .ref (o 0)), (1, .int v1)] 213 [] := by
    intro K63 kh63 v1 zs_o hf
    rw [F_X12_read_b213] at hf
    refine g_inc cx (L2 := fun v1_35 => [(1, .int v1_35), (0, .ref (o 0))]) 1 hf dX12_read_213 rfl (k_inc1 _) (Nat.le_of_ble_eq_true rfl) (fun _ => rfl) (fun v1_35 hf => ?_)
    refine g_goto (tgt := 63) cx dX12_read_216 rfl ?_
    refine g_sub [1, 0] rfl ?_
    exact kh63 _ _ hf
  have h199 : ∀ (K63 : Int32 → SM → Option (Int32 × SM)), (∀ (v1 : Int32) (zs_o : SM), K63 v1 zs_o = some r → gW p l e rm_X12_read s m args below meth c D A 3 (MQ below (QM D (tyL cB cI cJ cZ) (some (.int r.1)) (wX12 o cB cI cJ cZ s_o) (wX12 o cB cI cJ cZ r.2) s.heap.size) args s 0 0 A) 0 0 (wX12 o cB cI cJ cZ zs_o) [(0, .ref (o 0)), (1, .int v1)] 63 []) → ∀ (v1 : Int32) (zs_o : SM) (k1 : Int32), F_X12_read_b199  K63 v1 zs_o k1 = some r → gW p l e rm_X12_read s m args below meth c D A 3 (MQ below (QM D (tyL cB cI cJ cZ) (some (.int r.1)) (wX12 o cB cI cJ cZ s_o) (wX12 o cB cI cJ cZ r.2) s.heap.size) args s 0 0 A) 0 0 (wX12 o cB cI cJ cZ zs_o) [(0, .ref (o 0)), (1, .int v1)] 199 [.int k1, .ref (o 0)] := by
    intro K63 kh63 v1 zs_o k1 hf
    rw [F_X12_read_b199] at hf
    refine ob hf (fun q_36 hq_36 hf => ?_)
    refine g_callVFv cx lk_RX12_114 (c_X12_wants l D cB cI cJ cZ o zs_o k1 q_36 hq_36) rfl (ci := 10) (q1 := 0) rfl rfl rfl (Nat.le_of_ble_eq_true rfl) ⟨rfl, rfl, Nat.le_of_ble_eq_true rfl, Nat.le_of_ble_eq_true rfl⟩ dX12_read_199 ?_
    refine g_aln cx 0 dX12_read_202 rfl ?_
    refine ob hf (fun q_37 hq_37 hf => ?_)
    refine g_callVFi cx lk_RX12_110 (c_X12_isWell l D cB cI cJ cZ o q_36 q_37 hq_37) rfl (ci := 10) (q1 := 0) rfl rfl rfl (Nat.le_of_ble_eq_true rfl) ⟨rfl, rfl, Nat.le_of_ble_eq_true rfl, Nat.le_of_ble_eq_true rfl⟩ dX12_read_203 ?_
    refine g_if_eq (tgt := 213) cx hf dX12_read_206 rfl (fun hf => ?_) (fun hf => ?_)
    · exact h213 _ kh63 _ _ hf
    · refine g_aln cx 0 dX12_read_209 rfl ?_
      refine ob hf (fun q_38 hq_38 hf => ?_)
      refine g_callVFv cx lk_RX12_118 (c_X12_advances l D cB cI cJ cZ o q_36 q_38 hq_38) rfl (ci := 10) (q1 := 0) rfl rfl rfl (Nat.le_of_ble_eq_true rfl) ⟨rfl, rfl, Nat.le_of_ble_eq_true rfl, Nat.le_of_ble_eq_true rfl⟩ dX12_read_210 ?_
      exact h213 _ kh63 _ _ hf
  have h185 : ∀ (K63 : Int32 → SM → Option (Int32 × SM)), (∀ (v1 : Int32) (zs_o : SM), K63 v1 zs_o = some r → gW p l e rm_X12_read s m args below meth c D A 3 (MQ below (QM D (tyL cB cI cJ cZ) (some (.int r.1)) (wX12 o cB cI cJ cZ s_o) (wX12 o cB cI cJ cZ r.2) s.heap.size) args s 0 0 A) 0 0 (wX12 o cB cI cJ cZ zs_o) [(0, .ref (o 0)), (1, .int v1)] 63 []) → ∀ (v1 : Int32) (zs_o : SM), F_X12_read_b185  K63 v1 zs_o = some r → gW p l e rm_X12_read s m args below meth c D A 3 (MQ below (QM D (tyL cB cI cJ cZ) (some (.int r.1)) (wX12 o cB cI cJ cZ s_o) (wX12 o cB cI cJ cZ r.2) s.heap.size) args s 0 0 A) 0 0 (wX12 o cB cI cJ cZ zs_o) [(0, .ref (o 0)), (1, .int v1)] 185 [] := by
    intro K63 kh63 v1 zs_o hf
    rw [F_X12_read_b185] at hf
    refine g_aln cx 0 dX12_read_185 rfl ?_
    refine g_aln cx 0 dX12_read_186 rfl ?_
    refine mg_token cx dX12_read_187 ?_
    refine g_ic cx dX12_read_190 k_ic3 ?_
    refine g_ic_ne (tgt := 198) cx hf dX12_read_191 rfl (fun hf => ?_) (fun hf => ?_)
    · refine g_ic cx dX12_read_198 k_ic0 ?_
      exact h199 _ kh63 _ _ _ hf
    · refine g_ic cx dX12_read_194 k_ic1 ?_
      refine g_goto (tgt := 199) cx dX12_read_195 rfl ?_
      exact h199 _ kh63 _ _ _ hf
  have h166 : ∀ (K63 : Int32 → SM → Option (Int32 × SM)), (∀ (v1 : Int32) (zs_o : SM), K63 v1 zs_o = some r → gW p l e rm_X12_read s m args below meth c D A 3 (MQ below (QM D (tyL cB cI cJ cZ) (some (.int r.1)) (wX12 o cB cI cJ cZ s_o) (wX12 o cB cI cJ cZ r.2) s.heap.size) args s 0 0 A) 0 0 (wX12 o cB cI cJ cZ zs_o) [(0, .ref (o 0)), (1, .int v1)] 63 []) → ∀ (v1 : Int32) (v2 : Int32) (zs_o : SM) (k1 : Int32), F_X12_read_b166  K63 v1 v2 zs_o k1 = some r → gW p l e rm_X12_read s m args below meth c D A 3 (MQ below (QM D (tyL cB cI cJ cZ) (some (.int r.1)) (wX12 o cB cI cJ cZ s_o) (wX12 o cB cI cJ cZ r.2) s.heap.size) args s 0 0 A) 0 0 (wX12 o cB cI cJ cZ zs_o) [(0, .ref (o 0)), (1, .int v1), (2, .int v2)] 166 [.int k1, .ref (o 0)] := by
    intro K63 kh63 v1 v2 zs_o k1 hf
    rw [F_X12_read_b166] at hf
    refine ob hf (fun q_39 hq_39 hf => ?_)
    refine g_callVFv cx lk_RX12_114 (c_X12_wants l D cB cI cJ cZ o zs_o k1 q_39 hq_39) rfl (ci := 10) (q1 := 0) rfl rfl rfl (Nat.le_of_ble_eq_true rfl) ⟨rfl, rfl, Nat.le_of_ble_eq_true rfl, Nat.le_of_ble_eq_true rfl⟩ dX12_read_166 ?_
    refine g_aln cx 0 dX12_read_169 rfl ?_
    refine ob hf (fun q_40 hq_40 hf => ?_)
    refine g_callVFi cx lk_RX12_110 (c_X12_isWell l D cB cI cJ cZ o q_39 q_40 hq_40) rfl (ci := 10) (q1 := 0) rfl rfl rfl (Nat.le_of_ble_eq_true rfl) ⟨rfl, rfl, Nat.le_of_ble_eq_true rfl, Nat.le_of_ble_eq_true rfl⟩ dX12_read_170 ?_
    refine g_if_eq (tgt := 185) cx hf dX12_read_173 rfl (fun hf => ?_) (fun hf => ?_)
    · refine g_sub [0, 1] rfl ?_
      exact h185 _ kh63 _ _ hf
    · refine g_aln cx 0 dX12_read_176 rfl ?_
      refine ob hf (fun q_41 hq_41 hf => ?_)
      refine g_callVFv cx lk_RX12_118 (c_X12_advances l D cB cI cJ cZ o q_39 q_41 hq_41) rfl (ci := 10) (q1 := 0) rfl rfl rfl (Nat.le_of_ble_eq_true rfl) ⟨rfl, rfl, Nat.le_of_ble_eq_true rfl, Nat.le_of_ble_eq_true rfl⟩ dX12_read_177 ?_
      refine g_aln cx 0 dX12_read_180 rfl ?_
      refine g_iln cx 2 dX12_read_181 rfl ?_
      refine ob hf (fun q_42 hq_42 hf => ?_)
      refine g_callVFv cx lk_RX12_162 (c_X12_readsItem l D cB cI cJ cZ o q_41 v2 q_42 hq_42) rfl (ci := 10) (q1 := 0) rfl rfl rfl (Nat.le_of_ble_eq_true rfl) ⟨rfl, rfl, Nat.le_of_ble_eq_true rfl, Nat.le_of_ble_eq_true rfl⟩ dX12_read_182 ?_
      refine g_sub [0, 1] rfl ?_
      exact h185 _ kh63 _ _ hf
  have h161 : ∀ (K63 : Int32 → SM → Option (Int32 × SM)), (∀ (v1 : Int32) (zs_o : SM), K63 v1 zs_o = some r → gW p l e rm_X12_read s m args below meth c D A 3 (MQ below (QM D (tyL cB cI cJ cZ) (some (.int r.1)) (wX12 o cB cI cJ cZ s_o) (wX12 o cB cI cJ cZ r.2) s.heap.size) args s 0 0 A) 0 0 (wX12 o cB cI cJ cZ zs_o) [(0, .ref (o 0)), (1, .int v1)] 63 []) → ∀ (v1 : Int32) (v2 : Int32) (zs_o : SM), F_X12_read_b161  K63 v1 v2 zs_o = some r → gW p l e rm_X12_read s m args below meth c D A 3 (MQ below (QM D (tyL cB cI cJ cZ) (some (.int r.1)) (wX12 o cB cI cJ cZ s_o) (wX12 o cB cI cJ cZ r.2) s.heap.size) args s 0 0 A) 0 0 (wX12 o cB cI cJ cZ zs_o) [(0, .ref (o 0)), (1, .int v1), (2, .int v2)] 161 [.ref (o 0)] := by
    intro K63 kh63 v1 v2 zs_o hf
    rw [F_X12_read_b161] at hf
    refine g_ic cx dX12_read_161 k_ic1 ?_
    refine g_goto (tgt := 166) cx dX12_read_162 rfl ?_
    exact h166 _ kh63 _ _ _ _ hf
  have h165 : ∀ (K63 : Int32 → SM → Option (Int32 × SM)), (∀ (v1 : Int32) (zs_o : SM), K63 v1 zs_o = some r → gW p l e rm_X12_read s m args below meth c D A 3 (MQ below (QM D (tyL cB cI cJ cZ) (some (.int r.1)) (wX12 o cB cI cJ cZ s_o) (wX12 o cB cI cJ cZ r.2) s.heap.size) args s 0 0 A) 0 0 (wX12 o cB cI cJ cZ zs_o) [(0, .ref (o 0)), (1, .int v1)] 63 []) → ∀ (v1 : Int32) (v2 : Int32) (zs_o : SM), F_X12_read_b165  K63 v1 v2 zs_o = some r → gW p l e rm_X12_read s m args below meth c D A 3 (MQ below (QM D (tyL cB cI cJ cZ) (some (.int r.1)) (wX12 o cB cI cJ cZ s_o) (wX12 o cB cI cJ cZ r.2) s.heap.size) args s 0 0 A) 0 0 (wX12 o cB cI cJ cZ zs_o) [(0, .ref (o 0)), (1, .int v1), (2, .int v2)] 165 [.ref (o 0)] := by
    intro K63 kh63 v1 v2 zs_o hf
    rw [F_X12_read_b165] at hf
    refine g_ic cx dX12_read_165 k_ic0 ?_
    exact h166 _ kh63 _ _ _ _ hf
  have h63 : ∀ (n : Nat) (v1 : Int32) (zs_o : SM), F_X12_read_b63  n v1 zs_o = some r → gW p l e rm_X12_read s m args below meth c D A 3 (MQ below (QM D (tyL cB cI cJ cZ) (some (.int r.1)) (wX12 o cB cI cJ cZ s_o) (wX12 o cB cI cJ cZ r.2) s.heap.size) args s 0 0 A) 0 0 (wX12 o cB cI cJ cZ zs_o) [(0, .ref (o 0)), (1, .int v1)] 63 [] := by
    intro n
    induction n with
    | zero => intro v1 zs_o hf; rw [F_X12_read_b63] at hf; cases hf
    | succ n ih =>
      intro v1 zs_o hf
      rw [F_X12_read_b63] at hf
      refine g_aln cx 0 dX12_read_63 rfl ?_
      refine ob hf (fun q_43 hq_43 hf => ?_)
      refine g_callVFi cx lk_RX12_110 (c_X12_isWell l D cB cI cJ cZ o zs_o q_43 hq_43) rfl (ci := 10) (q1 := 0) rfl rfl rfl (Nat.le_of_ble_eq_true rfl) ⟨rfl, rfl, Nat.le_of_ble_eq_true rfl, Nat.le_of_ble_eq_true rfl⟩ dX12_read_64 ?_
      refine g_if_eq (tgt := 219) cx hf dX12_read_67 rfl (fun hf => ?_) (fun hf => ?_)
      · exact h219 _ _ hf
      · refine g_aln cx 0 dX12_read_70 rfl ?_
        refine mg_token cx dX12_read_71 ?_
        refine g_if_eq (tgt := 219) cx hf dX12_read_74 rfl (fun hf => ?_) (fun hf => ?_)
        · exact h219 _ _ hf
        · refine g_aln cx 0 dX12_read_77 rfl ?_
          refine ob hf (fun q_44 hq_44 hf => ?_)
          refine g_callVFi cx lk_RX12_158 (c_X12_begins l D cB cI cJ cZ o zs_o q_44 hq_44) rfl (ci := 10) (q1 := 0) rfl rfl rfl (Nat.le_of_ble_eq_true rfl) ⟨rfl, rfl, Nat.le_of_ble_eq_true rfl, Nat.le_of_ble_eq_true rfl⟩ dX12_read_78 ?_
          refine g_isn cx (L2 := fun v2_45 => [(2, .int v2_45), (0, .ref (o 0)), (1, .int v1)]) hf dX12_read_81 (Nat.le_of_ble_eq_true rfl) (fun _ => rfl) (fun v2_45 hf => ?_)
          refine g_aln cx 1 dX12_read_82 rfl ?_
          refine g_iln cx 0 dX12_read_83 rfl ?_
          refine g_if_ne (tgt := 104) cx hf dX12_read_84 rfl (fun hf => ?_) (fun hf => ?_)
          · refine g_iln cx 0 dX12_read_104 rfl ?_
            refine g_ic cx dX12_read_105 k_ic1 ?_
            refine g_ic_ne (tgt := 125) cx hf dX12_read_106 rfl (fun hf => ?_) (fun hf => ?_)
            · refine g_iln cx 0 dX12_read_125 rfl ?_
              refine g_ic cx dX12_read_126 k_ic2 ?_
              refine g_ic_eq (tgt := 161) cx hf dX12_read_127 rfl (fun hf => ?_) (fun hf => ?_)
              · refine g_sub [1, 2, 0] rfl ?_
                exact h161 _ ih _ _ _ hf
              · refine g_iln cx 0 dX12_read_130 rfl ?_
                refine g_ic cx dX12_read_131 k_ic3 ?_
                refine g_ic_ne (tgt := 147) cx hf dX12_read_132 rfl (fun hf => ?_) (fun hf => ?_)
                · refine g_iln cx 0 dX12_read_147 rfl ?_
                  refine g_ic cx dX12_read_148 k_ic4 ?_
                  refine g_ic_ne (tgt := 165) cx hf dX12_read_149 rfl (fun hf => ?_) (fun hf => ?_)
                  · refine g_sub [1, 2, 0] rfl ?_
                    exact h165 _ ih _ _ _ hf
                  · refine g_aln cx 1 dX12_read_152 rfl ?_
                    refine mg_draftStocks cx dX12_read_153 ?_
                    refine g_bp cx dX12_read_156 k_bp6 ?_
                    refine g_ic_ge (tgt := 165) cx hf dX12_read_158 rfl (fun hf => ?_) (fun hf => ?_)
                    · refine g_sub [1, 2, 0] rfl ?_
                      exact h165 _ ih _ _ _ hf
                    · refine g_sub [1, 2, 0] rfl ?_
                      exact h161 _ ih _ _ _ hf
                · refine g_aln cx 1 dX12_read_135 rfl ?_
                  refine mg_draftLines cx dX12_read_136 ?_
                  refine g_bp cx dX12_read_139 k_bp8 ?_
                  refine g_ic_ge (tgt := 165) cx hf dX12_read_141 rfl (fun hf => ?_) (fun hf => ?_)
                  · refine g_sub [1, 2, 0] rfl ?_
                    exact h165 _ ih _ _ _ hf
                  · refine g_goto (tgt := 161) cx dX12_read_144 rfl ?_
                    refine g_sub [1, 2, 0] rfl ?_
                    exact h161 _ ih _ _ _ hf
            · refine g_aln cx 1 dX12_read_109 rfl ?_
              refine mg_draftForms cx dX12_read_110 ?_
              refine g_ic cx dX12_read_113 k_ic2 ?_
              refine g_ic_ge (tgt := 121) cx hf dX12_read_114 rfl (fun hf => ?_) (fun hf => ?_)
              · refine g_ic cx dX12_read_121 k_ic0 ?_
                refine g_goto (tgt := 166) cx dX12_read_122 rfl ?_
                refine g_sub [1, 2, 0] rfl ?_
                exact h166 _ ih _ _ _ _ hf
              · refine g_ic cx dX12_read_117 k_ic1 ?_
                refine g_goto (tgt := 166) cx dX12_read_118 rfl ?_
                refine g_sub [1, 2, 0] rfl ?_
                exact h166 _ ih _ _ _ _ hf
          · refine g_aln cx 1 dX12_read_87 rfl ?_
            refine mg_draftWords cx dX12_read_88 ?_
            refine g_bp cx dX12_read_91 k_bp16 ?_
            refine g_ic_ge (tgt := 100) cx hf dX12_read_93 rfl (fun hf => ?_) (fun hf => ?_)
            · refine g_ic cx dX12_read_100 k_ic0 ?_
              refine g_goto (tgt := 166) cx dX12_read_101 rfl ?_
              refine g_sub [1, 2, 0] rfl ?_
              exact h166 _ ih _ _ _ _ hf
            · refine g_ic cx dX12_read_96 k_ic1 ?_
              refine g_goto (tgt := 166) cx dX12_read_97 rfl ?_
              refine g_sub [1, 2, 0] rfl ?_
              exact h166 _ ih _ _ _ _ hf
  have h40 : ∀ (n : Nat) (v1 : Int32) (v2 : Int32) (zs_o : SM), F_X12_read_b40  n v1 v2 zs_o = some r → gW p l e rm_X12_read s m args below meth c D A 3 (MQ below (QM D (tyL cB cI cJ cZ) (some (.int r.1)) (wX12 o cB cI cJ cZ s_o) (wX12 o cB cI cJ cZ r.2) s.heap.size) args s 0 0 A) 0 0 (wX12 o cB cI cJ cZ zs_o) [(0, .ref (o 0)), (1, .int v1), (2, .int v2)] 40 [] := by
    intro n
    induction n with
    | zero => intro v1 v2 zs_o hf; rw [F_X12_read_b40] at hf; cases hf
    | succ n ih =>
      intro v1 v2 zs_o hf
      rw [F_X12_read_b40] at hf
      refine g_iln cx 2 dX12_read_40 rfl ?_
      refine g_bp cx dX12_read_41 k_bp16 ?_
      refine g_ic_ge (tgt := 59) cx hf dX12_read_43 rfl (fun hf => ?_) (fun hf => ?_)
      · refine g_aln cx 0 dX12_read_59 rfl ?_
        refine ob hf (fun q_46 hq_46 hf => ?_)
        refine g_callVFv cx lk_RX12_118 (c_X12_advances l D cB cI cJ cZ o zs_o q_46 hq_46) rfl (ci := 10) (q1 := 0) rfl rfl rfl (Nat.le_of_ble_eq_true rfl) ⟨rfl, rfl, Nat.le_of_ble_eq_true rfl, Nat.le_of_ble_eq_true rfl⟩ dX12_read_60 ?_
        refine g_sub [0, 1] rfl ?_
        exact h63 fu _ _ hf
      · refine g_aln cx 0 dX12_read_46 rfl ?_
        refine mg_metre cx dX12_read_47 ?_
        refine g_iln cx 2 dX12_read_50 rfl ?_
        refine g_ic cx dX12_read_51 k_ic0 ?_
        refine ms_metre cx hf dX12_read_52 (fun s_o_48 hf => ?_)
        refine g_inc cx (L2 := fun v2_49 => [(2, .int v2_49), (0, .ref (o 0)), (1, .int v1)]) 2 hf dX12_read_53 rfl (k_inc1 _) (Nat.le_of_ble_eq_true rfl) (fun _ => rfl) (fun v2_49 hf => ?_)
        refine g_goto (tgt := 40) cx dX12_read_56 rfl ?_
        refine g_sub [1, 2, 0] rfl ?_
        exact ih _ _ _ hf
  rw [F_X12_read] at hf
  refine g_aln cx 0 dX12_read_0 rfl ?_
  refine g_ic cx dX12_read_1 k_ic0 ?_
  refine mp_thrown cx hf dX12_read_2 (fun s_o_50 hf => ?_)
  refine g_aln cx 0 dX12_read_5 rfl ?_
  refine g_ic cx dX12_read_6 k_icm1 ?_
  refine mp_fault cx hf dX12_read_7 (fun s_o_51 hf => ?_)
  refine g_aln cx 0 dX12_read_10 rfl ?_
  refine g_ic cx dX12_read_11 k_ic0 ?_
  refine mp_next cx hf dX12_read_12 (fun s_o_52 hf => ?_)
  refine g_ic cx dX12_read_15 k_ic0 ?_
  refine g_isn cx (L2 := fun v1_53 => [(1, .int v1_53), (0, .ref (o 0))]) hf dX12_read_16 (Nat.le_of_ble_eq_true rfl) (fun _ => rfl) (fun v1_53 hf => ?_)
  refine g_aln cx 1 dX12_read_17 rfl ?_
  refine g_ic cx dX12_read_18 k_ic0 ?_
  refine mp_draftWords cx hf dX12_read_19 (fun s_o_54 hf => ?_)
  refine g_aln cx 1 dX12_read_22 rfl ?_
  refine g_ic cx dX12_read_23 k_ic0 ?_
  refine mp_draftForms cx hf dX12_read_24 (fun s_o_55 hf => ?_)
  refine g_aln cx 1 dX12_read_27 rfl ?_
  refine g_ic cx dX12_read_28 k_ic0 ?_
  refine mp_draftLines cx hf dX12_read_29 (fun s_o_56 hf => ?_)
  refine g_aln cx 1 dX12_read_32 rfl ?_
  refine g_ic cx dX12_read_33 k_ic0 ?_
  refine mp_draftStocks cx hf dX12_read_34 (fun s_o_57 hf => ?_)
  refine g_bp cx dX12_read_37 k_bp8 ?_
  refine g_isn cx (L2 := fun v2_58 => [(2, .int v2_58), (1, .int v1_53), (0, .ref (o 0))]) hf dX12_read_39 (Nat.le_of_ble_eq_true rfl) (fun _ => rfl) (fun v2_58 hf => ?_)
  refine g_sub [2, 1, 0] rfl ?_
  exact h40 fu _ _ _ hf
theorem dX12_isWord_0 : decode cX12_isWord 0 = .ok (.iload_n 1, 1) := by decide +kernel
theorem dX12_isWord_1 : decode cX12_isWord 1 = .ok (.iconst 0, 1) := by decide +kernel
theorem dX12_isWord_2 : decode cX12_isWord 2 = .ok (.aload_n 0, 1) := by decide +kernel
theorem dX12_isWord_3 : decode cX12_isWord 3 = .ok (.getfield 166, 3) := by decide +kernel
theorem dX12_isWord_6 : decode cX12_isWord 6 = .ok (.iconst 1, 1) := by decide +kernel
theorem dX12_isWord_7 : decode cX12_isWord 7 = .ok (.isub, 1) := by decide +kernel
theorem dX12_isWord_8 : decode cX12_isWord 8 = .ok (.invokestatic 82, 3) := by decide +kernel
theorem dX12_isWord_11 : decode cX12_isWord 11 = .ok (.ireturn, 1) := by decide +kernel

theorem fg_RX12_166 {p : Program} {l : Launch} {e : Env} {R : Room} {s : State} {m : MethodId} {args : Array Value} {below : List Frame} {meth : Method} {c : Code} {D : gG} {tys : List (ClassId × FieldType)} {A : Nat → Prop} {nL : Nat} {Q : State → Prop} {cells slots : Nat} {cc : ByteArray} {ws : va_W} {L : List (Nat × Value)} {pc : Nat} {stk : List Value} (cx : gX p s m args meth c cc nL RX12 D tys A) {a : Nat} {fs : List Value} {v : Value} (q0 : Nat) (he : ws[q0]? = some (a, .inr (10, fs))) (hv : fs[13]? = some v) (hd : decode cc pc = .ok (.getfield 166, 3)) (kk : gW p l e R s m args below meth c D A nL Q cells slots ws L (pc + 3) (v :: stk)) : gW p l e R s m args below meth c D A nL Q cells slots ws L pc (.ref a :: stk) :=
  g_get cx (C := RX12) (T := TX12) (N := 38) inT12 rfl 13 (Nat.le_of_ble_eq_true rfl) q4_236 rfl q0 he hv hd kk
theorem mg_words {p : Program} {l : Launch} {e : Env} {R : Room} {s : State} {m : MethodId} {args : Array Value} {below : List Frame} {meth : Method} {c : Code} {D : gG} {A : Nat → Prop} {nL : Nat} {Q : State → Prop} {cells slots : Nat} {cc : ByteArray} {L : List (Nat × Value)} {pc : Nat} {stk : List Value} {o : Nat → Nat} {cB cI cJ cZ : ClassId} {z : SM} (cx : gX p s m args meth c cc nL RX12 D (tyL cB cI cJ cZ) A) (hd : decode cc pc = .ok (.getfield 166, 3)) (kk : gW p l e R s m args below meth c D A nL Q cells slots (wX12 o cB cI cJ cZ z) L (pc + 3) (.int (mI z 13) :: stk)) : gW p l e R s m args below meth c D A nL Q cells slots (wX12 o cB cI cJ cZ z) L pc (.ref (o 0) :: stk) :=
  fg_RX12_166 cx 0 rfl rfl hd kk
def F_X12_isWord (s_o : SM) (x1 : Int32) : Option (Int32) := (F_X12_in x1 0 ((mI s_o 13) - 1)).bind fun q_1 => (zb q_1).bind fun z_2 => some (q_1)

abbrev rm_X12_isWord : Room := { frames := 1, cells := 0, slots := 0, locals := 22 }
set_option maxHeartbeats 4000000 in
set_option maxRecDepth 100000 in
theorem c_X12_isWord (l : Launch) (D : gG) (cB cI cJ cZ : ClassId) (o : Nat → Nat) (s_o : SM) (x1 : Int32) (r : Int32) (hf : F_X12_isWord s_o x1 = some r) : gM l D (tyL cB cI cJ cZ) yX12_isWord cX12_isWord 2 (some .boolean) rm_X12_isWord [.ref (o 0), .int x1] (wX12 o cB cI cJ cZ s_o) (some (.int r)) (wX12 o cB cI cJ cZ s_o) := by
  refine met_of (by decide) (Nat.le_of_ble_eq_true rfl) ?_
  intro p e s m args below meth c A cx hr hA
  show gW p l e rm_X12_isWord s m args below meth c D A 2 _ 0 0 _ [(0, .ref (o 0)), (1, .int x1)] 0 []
  rw [F_X12_isWord] at hf
  refine g_iln cx 1 dX12_isWord_0 rfl ?_
  refine g_ic cx dX12_isWord_1 k_ic0 ?_
  refine g_aln cx 0 dX12_isWord_2 rfl ?_
  refine mg_words cx dX12_isWord_3 ?_
  refine g_ic cx dX12_isWord_6 k_ic1 ?_
  refine g_isub cx dX12_isWord_7 ?_
  refine ob hf (fun q_1 hq_1 hf => ?_)
  refine g_callSiR cx lk_RX12_82 (c_X12_in l D cB cI cJ cZ x1 0 ((mI s_o 13) - 1) q_1 hq_1) rfl [] rfl rfl rfl (Nat.le_of_ble_eq_true rfl) ⟨rfl, rfl, Nat.le_of_ble_eq_true rfl, Nat.le_of_ble_eq_true rfl⟩ dX12_isWord_8 ?_
  refine ob hf (fun z_2 hz hf => ?_)
  exact g_zret (ovf := fun (r : Int32) => (some (.int r))) (wf := fun (r : Int32) => (wX12 o cB cI cJ cZ s_o)) cx hA hr (zb_some hz).2 hf rfl rfl dX12_isWord_11
theorem dX12_isLine_0 : decode cX12_isLine 0 = .ok (.iload_n 1, 1) := by decide +kernel
theorem dX12_isLine_1 : decode cX12_isLine 1 = .ok (.iconst 0, 1) := by decide +kernel
theorem dX12_isLine_2 : decode cX12_isLine 2 = .ok (.aload_n 0, 1) := by decide +kernel
theorem dX12_isLine_3 : decode cX12_isLine 3 = .ok (.getfield 28, 3) := by decide +kernel
theorem dX12_isLine_6 : decode cX12_isLine 6 = .ok (.iconst 0, 1) := by decide +kernel
theorem dX12_isLine_7 : decode cX12_isLine 7 = .ok (.iaload, 1) := by decide +kernel
theorem dX12_isLine_8 : decode cX12_isLine 8 = .ok (.iconst 1, 1) := by decide +kernel
theorem dX12_isLine_9 : decode cX12_isLine 9 = .ok (.isub, 1) := by decide +kernel
theorem dX12_isLine_10 : decode cX12_isLine 10 = .ok (.invokestatic 82, 3) := by decide +kernel
theorem dX12_isLine_13 : decode cX12_isLine 13 = .ok (.ireturn, 1) := by decide +kernel

theorem ml_s {p : Program} {l : Launch} {e : Env} {R : Room} {s : State} {m : MethodId} {args : Array Value} {below : List Frame} {meth : Method} {c : Code} {D : gG} {A : Nat → Prop} {nL : Nat} {Q : State → Prop} {cells slots : Nat} {cc : ByteArray} {L : List (Nat × Value)} {pc : Nat} {stk : List Value} {β : Type} {r : β} {o : Nat → Nat} {cB cI cJ cZ : ClassId} {z : SM} (cx : gX p s m args meth c cc nL RX12 D (tyL cB cI cJ cZ) A) {i : Int32} {kf : Int32 → Option β} (hf : (aget 25 (mA z 21) i).bind kf = some r) (hd : decode cc pc = .ok (.iaload, 1)) (kk : ∀ v : Int32, kf v = some r → gW p l e R s m args below meth c D A nL Q cells slots (wX12 o cB cI cJ cZ z) L (pc + 1) (.int v :: stk)) : gW p l e R s m args below meth c D A nL Q cells slots (wX12 o cB cI cJ cZ z) L pc (.int i :: .ref (o 7) :: stk) :=
  g_iald cx 7 1 hf rfl rfl hd kk
def F_X12_isLine (s_o : SM) (x1 : Int32) : Option (Int32) := (aget 25 (mA s_o 21) 0).bind fun e_1 => (F_X12_in x1 0 (e_1 - 1)).bind fun q_2 => (zb q_2).bind fun z_3 => some (q_2)

abbrev rm_X12_isLine : Room := { frames := 1, cells := 0, slots := 0, locals := 22 }
set_option maxHeartbeats 4000000 in
set_option maxRecDepth 100000 in
theorem c_X12_isLine (l : Launch) (D : gG) (cB cI cJ cZ : ClassId) (o : Nat → Nat) (s_o : SM) (x1 : Int32) (r : Int32) (hf : F_X12_isLine s_o x1 = some r) : gM l D (tyL cB cI cJ cZ) yX12_isLine cX12_isLine 2 (some .boolean) rm_X12_isLine [.ref (o 0), .int x1] (wX12 o cB cI cJ cZ s_o) (some (.int r)) (wX12 o cB cI cJ cZ s_o) := by
  refine met_of (by decide) (Nat.le_of_ble_eq_true rfl) ?_
  intro p e s m args below meth c A cx hr hA
  show gW p l e rm_X12_isLine s m args below meth c D A 2 _ 0 0 _ [(0, .ref (o 0)), (1, .int x1)] 0 []
  rw [F_X12_isLine] at hf
  refine g_iln cx 1 dX12_isLine_0 rfl ?_
  refine g_ic cx dX12_isLine_1 k_ic0 ?_
  refine g_aln cx 0 dX12_isLine_2 rfl ?_
  refine mg_s cx dX12_isLine_3 ?_
  refine g_ic cx dX12_isLine_6 k_ic0 ?_
  refine ml_s cx hf dX12_isLine_7 (fun e_1 hf => ?_)
  refine g_ic cx dX12_isLine_8 k_ic1 ?_
  refine g_isub cx dX12_isLine_9 ?_
  refine ob hf (fun q_2 hq_2 hf => ?_)
  refine g_callSiR cx lk_RX12_82 (c_X12_in l D cB cI cJ cZ x1 0 (e_1 - 1) q_2 hq_2) rfl [] rfl rfl rfl (Nat.le_of_ble_eq_true rfl) ⟨rfl, rfl, Nat.le_of_ble_eq_true rfl, Nat.le_of_ble_eq_true rfl⟩ dX12_isLine_10 ?_
  refine ob hf (fun z_3 hz hf => ?_)
  exact g_zret (ovf := fun (r : Int32) => (some (.int r))) (wf := fun (r : Int32) => (wX12 o cB cI cJ cZ s_o)) cx hA hr (zb_some hz).2 hf rfl rfl dX12_isLine_13
theorem dX12_isForm_0 : decode cX12_isForm 0 = .ok (.iload_n 1, 1) := by decide +kernel
theorem dX12_isForm_1 : decode cX12_isForm 1 = .ok (.iconst 0, 1) := by decide +kernel
theorem dX12_isForm_2 : decode cX12_isForm 2 = .ok (.aload_n 0, 1) := by decide +kernel
theorem dX12_isForm_3 : decode cX12_isForm 3 = .ok (.getfield 169, 3) := by decide +kernel
theorem dX12_isForm_6 : decode cX12_isForm 6 = .ok (.iconst 1, 1) := by decide +kernel
theorem dX12_isForm_7 : decode cX12_isForm 7 = .ok (.isub, 1) := by decide +kernel
theorem dX12_isForm_8 : decode cX12_isForm 8 = .ok (.invokestatic 82, 3) := by decide +kernel
theorem dX12_isForm_11 : decode cX12_isForm 11 = .ok (.ifCond .eq 16, 3) := by decide +kernel
theorem dX12_isForm_14 : decode cX12_isForm 14 = .ok (.iload_n 2, 1) := by decide +kernel
theorem dX12_isForm_15 : decode cX12_isForm 15 = .ok (.iconst 0, 1) := by decide +kernel
theorem dX12_isForm_16 : decode cX12_isForm 16 = .ok (.iconst 1, 1) := by decide +kernel
theorem dX12_isForm_17 : decode cX12_isForm 17 = .ok (.invokestatic 82, 3) := by decide +kernel
theorem dX12_isForm_20 : decode cX12_isForm 20 = .ok (.ifCond .eq 7, 3) := by decide +kernel
theorem dX12_isForm_23 : decode cX12_isForm 23 = .ok (.iconst 1, 1) := by decide +kernel
theorem dX12_isForm_24 : decode cX12_isForm 24 = .ok (.goto 4, 3) := by decide +kernel
theorem dX12_isForm_27 : decode cX12_isForm 27 = .ok (.iconst 0, 1) := by decide +kernel
theorem dX12_isForm_28 : decode cX12_isForm 28 = .ok (.ireturn, 1) := by decide +kernel

theorem fg_RX12_169 {p : Program} {l : Launch} {e : Env} {R : Room} {s : State} {m : MethodId} {args : Array Value} {below : List Frame} {meth : Method} {c : Code} {D : gG} {tys : List (ClassId × FieldType)} {A : Nat → Prop} {nL : Nat} {Q : State → Prop} {cells slots : Nat} {cc : ByteArray} {ws : va_W} {L : List (Nat × Value)} {pc : Nat} {stk : List Value} (cx : gX p s m args meth c cc nL RX12 D tys A) {a : Nat} {fs : List Value} {v : Value} (q0 : Nat) (he : ws[q0]? = some (a, .inr (10, fs))) (hv : fs[14]? = some v) (hd : decode cc pc = .ok (.getfield 169, 3)) (kk : gW p l e R s m args below meth c D A nL Q cells slots ws L (pc + 3) (v :: stk)) : gW p l e R s m args below meth c D A nL Q cells slots ws L pc (.ref a :: stk) :=
  g_get cx (C := RX12) (T := TX12) (N := 38) inT12 rfl 14 (Nat.le_of_ble_eq_true rfl) q4_237 rfl q0 he hv hd kk
theorem mg_forms {p : Program} {l : Launch} {e : Env} {R : Room} {s : State} {m : MethodId} {args : Array Value} {below : List Frame} {meth : Method} {c : Code} {D : gG} {A : Nat → Prop} {nL : Nat} {Q : State → Prop} {cells slots : Nat} {cc : ByteArray} {L : List (Nat × Value)} {pc : Nat} {stk : List Value} {o : Nat → Nat} {cB cI cJ cZ : ClassId} {z : SM} (cx : gX p s m args meth c cc nL RX12 D (tyL cB cI cJ cZ) A) (hd : decode cc pc = .ok (.getfield 169, 3)) (kk : gW p l e R s m args below meth c D A nL Q cells slots (wX12 o cB cI cJ cZ z) L (pc + 3) (.int (mI z 14) :: stk)) : gW p l e R s m args below meth c D A nL Q cells slots (wX12 o cB cI cJ cZ z) L pc (.ref (o 0) :: stk) :=
  fg_RX12_169 cx 0 rfl rfl hd kk
def F_X12_isForm (s_o : SM) (x1 : Int32) (x2 : Int32) : Option (Int32) := (F_X12_in x1 0 ((mI s_o 14) - 1)).bind fun q_1 => (if q_1 = 0 then some (0) else (F_X12_in x2 0 1).bind fun q_2 => (if q_2 = 0 then some (0) else some (1)))

abbrev rm_X12_isForm : Room := { frames := 1, cells := 0, slots := 0, locals := 22 }
set_option maxHeartbeats 4000000 in
set_option maxRecDepth 100000 in
theorem c_X12_isForm (l : Launch) (D : gG) (cB cI cJ cZ : ClassId) (o : Nat → Nat) (s_o : SM) (x1 : Int32) (x2 : Int32) (r : Int32) (hf : F_X12_isForm s_o x1 x2 = some r) : gM l D (tyL cB cI cJ cZ) yX12_isForm cX12_isForm 3 (some .boolean) rm_X12_isForm [.ref (o 0), .int x1, .int x2] (wX12 o cB cI cJ cZ s_o) (some (.int r)) (wX12 o cB cI cJ cZ s_o) := by
  refine met_of (by decide) (Nat.le_of_ble_eq_true rfl) ?_
  intro p e s m args below meth c A cx hr hA
  show gW p l e rm_X12_isForm s m args below meth c D A 3 _ 0 0 _ [(0, .ref (o 0)), (1, .int x1), (2, .int x2)] 0 []
  rw [F_X12_isForm] at hf
  refine g_iln cx 1 dX12_isForm_0 rfl ?_
  refine g_ic cx dX12_isForm_1 k_ic0 ?_
  refine g_aln cx 0 dX12_isForm_2 rfl ?_
  refine mg_forms cx dX12_isForm_3 ?_
  refine g_ic cx dX12_isForm_6 k_ic1 ?_
  refine g_isub cx dX12_isForm_7 ?_
  refine ob hf (fun q_1 hq_1 hf => ?_)
  refine g_callSiR cx lk_RX12_82 (c_X12_in l D cB cI cJ cZ x1 0 ((mI s_o 14) - 1) q_1 hq_1) rfl [] rfl rfl rfl (Nat.le_of_ble_eq_true rfl) ⟨rfl, rfl, Nat.le_of_ble_eq_true rfl, Nat.le_of_ble_eq_true rfl⟩ dX12_isForm_8 ?_
  refine g_if_eq (tgt := 27) cx hf dX12_isForm_11 rfl (fun hf => ?_) (fun hf => ?_)
  · refine g_ic cx dX12_isForm_27 k_ic0 ?_
    exact g_zret (ovf := fun (r : Int32) => (some (.int r))) (wf := fun (r : Int32) => (wX12 o cB cI cJ cZ s_o)) cx hA hr rfl hf rfl rfl dX12_isForm_28
  · refine g_iln cx 2 dX12_isForm_14 rfl ?_
    refine g_ic cx dX12_isForm_15 k_ic0 ?_
    refine g_ic cx dX12_isForm_16 k_ic1 ?_
    refine ob hf (fun q_2 hq_2 hf => ?_)
    refine g_callSiR cx lk_RX12_82 (c_X12_in l D cB cI cJ cZ x2 0 1 q_2 hq_2) rfl [] rfl rfl rfl (Nat.le_of_ble_eq_true rfl) ⟨rfl, rfl, Nat.le_of_ble_eq_true rfl, Nat.le_of_ble_eq_true rfl⟩ dX12_isForm_17 ?_
    refine g_if_eq (tgt := 27) cx hf dX12_isForm_20 rfl (fun hf => ?_) (fun hf => ?_)
    · refine g_ic cx dX12_isForm_27 k_ic0 ?_
      exact g_zret (ovf := fun (r : Int32) => (some (.int r))) (wf := fun (r : Int32) => (wX12 o cB cI cJ cZ s_o)) cx hA hr rfl hf rfl rfl dX12_isForm_28
    · refine g_ic cx dX12_isForm_23 k_ic1 ?_
      refine g_goto (tgt := 28) cx dX12_isForm_24 rfl ?_
      exact g_zret (ovf := fun (r : Int32) => (some (.int r))) (wf := fun (r : Int32) => (wX12 o cB cI cJ cZ s_o)) cx hA hr rfl hf rfl rfl dX12_isForm_28
theorem dX12_word_0 : decode cX12_word 0 = .ok (.aload_n 0, 1) := by decide +kernel
theorem dX12_word_1 : decode cX12_word 1 = .ok (.iconst 0, 1) := by decide +kernel
theorem dX12_word_2 : decode cX12_word 2 = .ok (.putfield 78, 3) := by decide +kernel
theorem dX12_word_5 : decode cX12_word 5 = .ok (.aload_n 0, 1) := by decide +kernel
theorem dX12_word_6 : decode cX12_word 6 = .ok (.iload_n 1, 1) := by decide +kernel
theorem dX12_word_7 : decode cX12_word 7 = .ok (.invokevirtual 175, 3) := by decide +kernel
theorem dX12_word_10 : decode cX12_word 10 = .ok (.ifCond .eq 25, 3) := by decide +kernel
theorem dX12_word_13 : decode cX12_word 13 = .ok (.iload_n 2, 1) := by decide +kernel
theorem dX12_word_14 : decode cX12_word 14 = .ok (.iconst 0, 1) := by decide +kernel
theorem dX12_word_15 : decode cX12_word 15 = .ok (.iconst 3, 1) := by decide +kernel
theorem dX12_word_16 : decode cX12_word 16 = .ok (.invokestatic 82, 3) := by decide +kernel
theorem dX12_word_19 : decode cX12_word 19 = .ok (.ifCond .eq 16, 3) := by decide +kernel
theorem dX12_word_22 : decode cX12_word 22 = .ok (.aload_n 0, 1) := by decide +kernel
theorem dX12_word_23 : decode cX12_word 23 = .ok (.getfield 13, 3) := by decide +kernel
theorem dX12_word_26 : decode cX12_word 26 = .ok (.iconst 4, 1) := by decide +kernel
theorem dX12_word_27 : decode cX12_word 27 = .ok (.iload_n 1, 1) := by decide +kernel
theorem dX12_word_28 : decode cX12_word 28 = .ok (.imul, 1) := by decide +kernel
theorem dX12_word_29 : decode cX12_word 29 = .ok (.iload_n 2, 1) := by decide +kernel
theorem dX12_word_30 : decode cX12_word 30 = .ok (.iadd, 1) := by decide +kernel
theorem dX12_word_31 : decode cX12_word 31 = .ok (.iaload, 1) := by decide +kernel
theorem dX12_word_32 : decode cX12_word 32 = .ok (.goto 4, 3) := by decide +kernel
theorem dX12_word_35 : decode cX12_word 35 = .ok (.iconst (-1), 1) := by decide +kernel
theorem dX12_word_36 : decode cX12_word 36 = .ok (.ireturn, 1) := by decide +kernel
theorem q0_40 : Cond.selects RX12 yX12_isWord yX12_isWord ∈ TT := tq0 40 rfl rfl
theorem q5_171 : Cond.methodLink RX12 175 yX12_isWord ∈ TT := tq5 171 rfl rfl
theorem q5_173 : Cond.instanceMethod yX12_isWord ∈ TT := tq5 173 rfl rfl
theorem q5_174 : Cond.code yX12_isWord cX12_isWord 2 (some .boolean) ∈ TT := tq5 174 rfl rfl
theorem lk_RX12_175 : vlk RX12 175 yX12_isWord cX12_isWord 2 (some .boolean) 1 := ⟨List.forall_mem_cons.mpr ⟨q5_171, List.forall_mem_cons.mpr ⟨q5_173, List.forall_mem_cons.mpr ⟨q0_40, List.forall_mem_cons.mpr ⟨q1_12, fun _ h => absurd h List.not_mem_nil⟩⟩⟩⟩, q5_174, by decide, by decide, by decide +kernel⟩
def F_X12_word (s_o : SM) (x1 : Int32) (x2 : Int32) : Option (Int32 × SM) := nm (mIs s_o 0 0) fun s_o_1 => (F_X12_isWord s_o_1 x1).bind fun q_2 => (if q_2 = 0 then some ((-1), s_o_1) else (F_X12_in x2 0 3).bind fun q_3 => (if q_3 = 0 then some ((-1), s_o_1) else (aget 128 (mA s_o_1 9) ((4 * x1) + x2)).bind fun e_4 => some (e_4, s_o_1)))

abbrev rm_X12_word : Room := { frames := 2, cells := 0, slots := 0, locals := 43 }
set_option maxHeartbeats 4000000 in
set_option maxRecDepth 100000 in
theorem c_X12_word (l : Launch) (D : gG) (cB cI cJ cZ : ClassId) (o : Nat → Nat) (s_o : SM) (x1 : Int32) (x2 : Int32) (r : Int32 × SM) (hf : F_X12_word s_o x1 x2 = some r) : gM l D (tyL cB cI cJ cZ) yX12_word cX12_word 3 (some .int) rm_X12_word [.ref (o 0), .int x1, .int x2] (wX12 o cB cI cJ cZ s_o) (some (.int r.1)) (wX12 o cB cI cJ cZ r.2) := by
  refine met_of (by decide) (Nat.le_of_ble_eq_true rfl) ?_
  intro p e s m args below meth c A cx hr hA
  show gW p l e rm_X12_word s m args below meth c D A 3 _ 0 0 _ [(0, .ref (o 0)), (1, .int x1), (2, .int x2)] 0 []
  rw [F_X12_word] at hf
  refine g_aln cx 0 dX12_word_0 rfl ?_
  refine g_ic cx dX12_word_1 k_ic0 ?_
  refine mp_thrown cx hf dX12_word_2 (fun s_o_1 hf => ?_)
  refine g_aln cx 0 dX12_word_5 rfl ?_
  refine g_iln cx 1 dX12_word_6 rfl ?_
  refine ob hf (fun q_2 hq_2 hf => ?_)
  refine g_callVFi cx lk_RX12_175 (c_X12_isWord l D cB cI cJ cZ o s_o_1 x1 q_2 hq_2) rfl (ci := 10) (q1 := 0) rfl rfl rfl (Nat.le_of_ble_eq_true rfl) ⟨rfl, rfl, Nat.le_of_ble_eq_true rfl, Nat.le_of_ble_eq_true rfl⟩ dX12_word_7 ?_
  refine g_if_eq (tgt := 35) cx hf dX12_word_10 rfl (fun hf => ?_) (fun hf => ?_)
  · refine g_ic cx dX12_word_35 k_icm1 ?_
    exact g_iret (ovf := fun (r : Int32 × SM) => (some (.int r.1))) (wf := fun (r : Int32 × SM) => (wX12 o cB cI cJ cZ r.2)) cx hA hr hf rfl rfl dX12_word_36
  · refine g_iln cx 2 dX12_word_13 rfl ?_
    refine g_ic cx dX12_word_14 k_ic0 ?_
    refine g_ic cx dX12_word_15 k_ic3 ?_
    refine ob hf (fun q_3 hq_3 hf => ?_)
    refine g_callSiR cx lk_RX12_82 (c_X12_in l D cB cI cJ cZ x2 0 3 q_3 hq_3) rfl [] rfl rfl rfl (Nat.le_of_ble_eq_true rfl) ⟨rfl, rfl, Nat.le_of_ble_eq_true rfl, Nat.le_of_ble_eq_true rfl⟩ dX12_word_16 ?_
    refine g_if_eq (tgt := 35) cx hf dX12_word_19 rfl (fun hf => ?_) (fun hf => ?_)
    · refine g_ic cx dX12_word_35 k_icm1 ?_
      exact g_iret (ovf := fun (r : Int32 × SM) => (some (.int r.1))) (wf := fun (r : Int32 × SM) => (wX12 o cB cI cJ cZ r.2)) cx hA hr hf rfl rfl dX12_word_36
    · refine g_aln cx 0 dX12_word_22 rfl ?_
      refine mg_word cx dX12_word_23 ?_
      refine g_ic cx dX12_word_26 k_ic4 ?_
      refine g_iln cx 1 dX12_word_27 rfl ?_
      refine g_imul cx dX12_word_28 ?_
      refine g_iln cx 2 dX12_word_29 rfl ?_
      refine g_iadd cx dX12_word_30 ?_
      refine ml_word cx hf dX12_word_31 (fun e_4 hf => ?_)
      refine g_goto (tgt := 36) cx dX12_word_32 rfl ?_
      exact g_iret (ovf := fun (r : Int32 × SM) => (some (.int r.1))) (wf := fun (r : Int32 × SM) => (wX12 o cB cI cJ cZ r.2)) cx hA hr hf rfl rfl dX12_word_36
theorem dX12_letterOf_0 : decode cX12_letterOf 0 = .ok (.aload_n 0, 1) := by decide +kernel
theorem dX12_letterOf_1 : decode cX12_letterOf 1 = .ok (.getfield 16, 3) := by decide +kernel
theorem dX12_letterOf_4 : decode cX12_letterOf 4 = .ok (.bipush 9, 2) := by decide +kernel
theorem dX12_letterOf_6 : decode cX12_letterOf 6 = .ok (.iload_n 1, 1) := by decide +kernel
theorem dX12_letterOf_7 : decode cX12_letterOf 7 = .ok (.imul, 1) := by decide +kernel
theorem dX12_letterOf_8 : decode cX12_letterOf 8 = .ok (.iconst 1, 1) := by decide +kernel
theorem dX12_letterOf_9 : decode cX12_letterOf 9 = .ok (.iadd, 1) := by decide +kernel
theorem dX12_letterOf_10 : decode cX12_letterOf 10 = .ok (.iload_n 2, 1) := by decide +kernel
theorem dX12_letterOf_11 : decode cX12_letterOf 11 = .ok (.aload_n 0, 1) := by decide +kernel
theorem dX12_letterOf_12 : decode cX12_letterOf 12 = .ok (.getfield 16, 3) := by decide +kernel
theorem dX12_letterOf_15 : decode cX12_letterOf 15 = .ok (.bipush 9, 2) := by decide +kernel
theorem dX12_letterOf_17 : decode cX12_letterOf 17 = .ok (.iload_n 1, 1) := by decide +kernel
theorem dX12_letterOf_18 : decode cX12_letterOf 18 = .ok (.imul, 1) := by decide +kernel
theorem dX12_letterOf_19 : decode cX12_letterOf 19 = .ok (.iaload, 1) := by decide +kernel
theorem dX12_letterOf_20 : decode cX12_letterOf 20 = .ok (.irem, 1) := by decide +kernel
theorem dX12_letterOf_21 : decode cX12_letterOf 21 = .ok (.iadd, 1) := by decide +kernel
theorem dX12_letterOf_22 : decode cX12_letterOf 22 = .ok (.iaload, 1) := by decide +kernel
theorem dX12_letterOf_23 : decode cX12_letterOf 23 = .ok (.ireturn, 1) := by decide +kernel


def F_X12_letterOf (s_o : SM) (x1 : Int32) (x2 : Int32) : Option (Int32) := (aget 36 (mA s_o 10) (9 * x1)).bind fun e_1 => (orem x2 e_1).bind fun m_2 => (aget 36 (mA s_o 10) (((9 * x1) + 1) + m_2)).bind fun e_3 => some (e_3)

abbrev rm_X12_letterOf : Room := { frames := 0, cells := 0, slots := 0, locals := 0 }
set_option maxHeartbeats 4000000 in
set_option maxRecDepth 100000 in
theorem c_X12_letterOf (l : Launch) (D : gG) (cB cI cJ cZ : ClassId) (o : Nat → Nat) (s_o : SM) (x1 : Int32) (x2 : Int32) (r : Int32) (hf : F_X12_letterOf s_o x1 x2 = some r) : gM l D (tyL cB cI cJ cZ) yX12_letterOf cX12_letterOf 3 (some .int) rm_X12_letterOf [.ref (o 0), .int x1, .int x2] (wX12 o cB cI cJ cZ s_o) (some (.int r)) (wX12 o cB cI cJ cZ s_o) := by
  refine met_of (by decide) (Nat.le_of_ble_eq_true rfl) ?_
  intro p e s m args below meth c A cx hr hA
  show gW p l e rm_X12_letterOf s m args below meth c D A 3 _ 0 0 _ [(0, .ref (o 0)), (1, .int x1), (2, .int x2)] 0 []
  rw [F_X12_letterOf] at hf
  refine g_aln cx 0 dX12_letterOf_0 rfl ?_
  refine mg_form cx dX12_letterOf_1 ?_
  refine g_bp cx dX12_letterOf_4 k_bp9 ?_
  refine g_iln cx 1 dX12_letterOf_6 rfl ?_
  refine g_imul cx dX12_letterOf_7 ?_
  refine g_ic cx dX12_letterOf_8 k_ic1 ?_
  refine g_iadd cx dX12_letterOf_9 ?_
  refine g_iln cx 2 dX12_letterOf_10 rfl ?_
  refine g_aln cx 0 dX12_letterOf_11 rfl ?_
  refine mg_form cx dX12_letterOf_12 ?_
  refine g_bp cx dX12_letterOf_15 k_bp9 ?_
  refine g_iln cx 1 dX12_letterOf_17 rfl ?_
  refine g_imul cx dX12_letterOf_18 ?_
  refine ml_form cx hf dX12_letterOf_19 (fun e_1 hf => ?_)
  refine g_irem cx hf dX12_letterOf_20 (fun m_2 hf => ?_)
  refine g_iadd cx dX12_letterOf_21 ?_
  refine ml_form cx hf dX12_letterOf_22 (fun e_3 hf => ?_)
  exact g_iret (ovf := fun (r : Int32) => (some (.int r))) (wf := fun (r : Int32) => (wX12 o cB cI cJ cZ s_o)) cx hA hr hf rfl rfl dX12_letterOf_23
