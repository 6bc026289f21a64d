theorem dX11_asLine_0 : decode cX11_asLine 0 = .ok (.aload_n 0, 1) := by decide +kernel
theorem dX11_asLine_1 : decode cX11_asLine 1 = .ok (.dup, 1) := by decide +kernel
theorem dX11_asLine_2 : decode cX11_asLine 2 = .ok (.getfield 256, 3) := by decide +kernel
theorem dX11_asLine_5 : decode cX11_asLine 5 = .ok (.lconst 1, 1) := by decide +kernel
theorem dX11_asLine_6 : decode cX11_asLine 6 = .ok (.ladd, 1) := by decide +kernel
theorem dX11_asLine_7 : decode cX11_asLine 7 = .ok (.putfield 256, 3) := by decide +kernel
theorem dX11_asLine_10 : decode cX11_asLine 10 = .ok (.aload_n 0, 1) := by decide +kernel
theorem dX11_asLine_11 : decode cX11_asLine 11 = .ok (.getfield 62, 3) := by decide +kernel
theorem dX11_asLine_14 : decode cX11_asLine 14 = .ok (.getfield 127, 3) := by decide +kernel
theorem dX11_asLine_17 : decode cX11_asLine 17 = .ok (.iload_n 1, 1) := by decide +kernel
theorem dX11_asLine_18 : decode cX11_asLine 18 = .ok (.invokevirtual 267, 3) := by decide +kernel
theorem dX11_asLine_21 : decode cX11_asLine 21 = .ok (.ireturn, 1) := by decide +kernel
theorem q2_3 : Cond.fieldLink RX11 256 "RhymeLaw" "traced" "J" ∈ TT := tq2 3 rfl rfl
theorem fg_RX11_256 {p : Program} {l : Launch} {e : Env} {R : Room} {s : State} {m : MethodId} {args : Array Value} {below : List Frame} {meth : Method} {c : Code} {D : gG} {tys : List (ClassId × FieldType)} {A : Nat → Prop} {nL : Nat} {Q : State → Prop} {cells slots : Nat} {cc : ByteArray} {ws : va_W} {L : List (Nat × Value)} {pc : Nat} {stk : List Value} (cx : gX p s m args meth c cc nL RX11 D tys A) {a : Nat} {fs : List Value} {v : Value} (q0 : Nat) (he : ws[q0]? = some (a, .inr (9, fs))) (hv : fs[11]? = some v) (hd : decode cc pc = .ok (.getfield 256, 3)) (kk : gW p l e R s m args below meth c D A nL Q cells slots ws L (pc + 3) (v :: stk)) : gW p l e R s m args below meth c D A nL Q cells slots ws L pc (.ref a :: stk) :=
  g_get cx (C := RX11) (T := TX11) (N := 12) inT11 rfl 11 (Nat.le_of_ble_eq_true rfl) q2_3 rfl q0 he hv hd kk
theorem fp_RX11_256 {p : Program} {l : Launch} {e : Env} {R : Room} {s : State} {m : MethodId} {args : Array Value} {below : List Frame} {meth : Method} {c : Code} {D : gG} {tys : List (ClassId × FieldType)} {A : Nat → Prop} {nL : Nat} {Q : State → Prop} {cells slots : Nat} {cc : ByteArray} {ws : va_W} {L : List (Nat × Value)} {pc : Nat} {stk : List Value} (cx : gX p s m args meth c cc nL RX11 D tys A) {a : Nat} {fs : List Value} {x : Int64} (q0 : Nat) (he : ws[q0]? = some (a, .inr (9, fs))) (hl : 11 < fs.length) {ws' : va_W} (hw : ws.set q0 (a, .inr (9, fs.set 11 (.long x))) = ws') (hd : decode cc pc = .ok (.putfield 256, 3)) (kk : gW p l e R s m args below meth c D A nL Q cells slots ws' L (pc + 3) stk) : gW p l e R s m args below meth c D A nL Q cells slots ws L pc (.long x :: .ref a :: stk) :=
  g_put cx (C := RX11) (T := TX11) (N := 12) (ty0 := tyX11) (ty := .long) inT11 tyX11_ok nmX11 rfl 11 (Nat.le_of_ble_eq_true rfl) q2_3 rfl rfl rfl rfl rfl q0 he hl hw hd kk
def F_X11_asLine (s_o : S11) (s_o_told : S7) (s_o_told_paper : S4) (x1 : Int32) : Option (Int32 × S11) := nm ((s11_traced s_o) + 1) fun t_1 => nm (u11_traced s_o t_1) fun s_o_2 => (F_X4_thingAt s_o_told_paper x1).bind fun q_3 => some (q_3, s_o_2)
def w_X11_asLine (o o_told o_told_paper o_text o_verdict o_trial o_mending o_guess o_choice o_firstImage o_secondImage o_spare o_told_words o_told_forms o_told_stock : Nat → Nat) (cB cI cJ cZ : ClassId) (s_o : S11) (s_o_told : S7) (s_o_told_paper : S4) (rf_o_told : Value) (rf_o_spare : Value) : va_W := List.flatten [(gX11 o cB cI cJ cZ (o_text 0) (o_verdict 0) (o_trial 0) (o_mending 0) (o_guess 0) (o_choice 0) (o_firstImage 0) (o_secondImage 0) rf_o_told rf_o_spare s_o), (gX7 o_told cB cI cJ cZ (o_told_words 0) (o_told_forms 0) (o_told_paper 0) (o_told_stock 0) s_o_told), (gX4 o_told_paper cB cI cJ cZ s_o_told_paper)]
abbrev rm_X11_asLine : Room := { frames := 2, cells := 0, slots := 0, locals := 42 }
set_option maxHeartbeats 4000000 in
set_option maxRecDepth 100000 in
theorem c_X11_asLine (l : Launch) (D : gG) (cB cI cJ cZ : ClassId) (o o_told o_told_paper o_text o_verdict o_trial o_mending o_guess o_choice o_firstImage o_secondImage o_spare o_told_words o_told_forms o_told_stock : Nat → Nat) (s_o : S11) (s_o_told : S7) (s_o_told_paper : S4) (x1 : Int32) (r : Int32 × S11) (hf : F_X11_asLine s_o s_o_told s_o_told_paper x1 = some r) : gM l D (tyL cB cI cJ cZ) yX11_asLine cX11_asLine 2 (some .int) rm_X11_asLine [.ref (o 0), .int x1] (w_X11_asLine o o_told o_told_paper o_text o_verdict o_trial o_mending o_guess o_choice o_firstImage o_secondImage o_spare o_told_words o_told_forms o_told_stock cB cI cJ cZ s_o s_o_told s_o_told_paper (.ref (o_told 0)) (.ref (o_spare 0))) (some (.int r.1)) (w_X11_asLine o o_told o_told_paper o_text o_verdict o_trial o_mending o_guess o_choice o_firstImage o_secondImage o_spare o_told_words o_told_forms o_told_stock cB cI cJ cZ r.2 s_o_told s_o_told_paper (.ref (o_told 0)) (.ref (o_spare 0))) := by
  refine met_of (by decide) (Nat.le_of_ble_eq_true rfl) ?_
  intro p e s m args below meth c A cx hr hA
  show gW p l e rm_X11_asLine s m args below meth c D A 2 _ 0 0 _ [(0, .ref (o 0)), (1, .int x1)] 0 []
  rw [F_X11_asLine] at hf
  refine g_aln cx 0 dX11_asLine_0 rfl ?_
  refine g_dup cx dX11_asLine_1 rfl ?_
  refine fg_RX11_256 cx 0 rfl rfl dX11_asLine_2 ?_
  refine g_lc cx dX11_asLine_5 rfl ?_
  refine g_ladd cx dX11_asLine_6 ?_
  refine g_topl hf (fun t_1 hf => ?_)
  refine fp_RX11_256 cx 0 rfl (Nat.le_of_ble_eq_true rfl) (ws' := (w_X11_asLine o o_told o_told_paper o_text o_verdict o_trial o_mending o_guess o_choice o_firstImage o_secondImage o_spare o_told_words o_told_forms o_told_stock cB cI cJ cZ (u11_traced s_o t_1) s_o_told s_o_told_paper (.ref (o_told 0)) (.ref (o_spare 0)))) rfl dX11_asLine_7 ?_
  refine g_nm (w := fun s_o_2 => (w_X11_asLine o o_told o_told_paper o_text o_verdict o_trial o_mending o_guess o_choice o_firstImage o_secondImage o_spare o_told_words o_told_forms o_told_stock cB cI cJ cZ s_o_2 s_o_told s_o_told_paper (.ref (o_told 0)) (.ref (o_spare 0)))) hf (fun s_o_2 hf => ?_)
  refine g_aln cx 0 dX11_asLine_10 rfl ?_
  refine fg_RX11_62 cx 0 rfl rfl dX11_asLine_11 ?_
  refine fg_RX11_127 cx 1 rfl rfl dX11_asLine_14 ?_
  refine g_iln cx 1 dX11_asLine_17 rfl ?_
  refine ob hf (fun q_3 hq_3 hf => ?_)
  refine g_callVGiR cx lk_RX11_267 (c_X4_thingAt l D cB cI cJ cZ o_told_paper s_o_told_paper x1 q_3 hq_3) rfl [2] rfl rfl (ci := 4) (q1 := 0) rfl rfl rfl (Nat.le_of_ble_eq_true rfl) ⟨rfl, rfl, Nat.le_of_ble_eq_true rfl, Nat.le_of_ble_eq_true rfl⟩ dX11_asLine_18 ?_
  exact g_iret (ovf := fun (r : Int32 × S11) => (some (.int r.1))) (wf := fun (r : Int32 × S11) => (w_X11_asLine o o_told o_told_paper o_text o_verdict o_trial o_mending o_guess o_choice o_firstImage o_secondImage o_spare o_told_words o_told_forms o_told_stock cB cI cJ cZ r.2 s_o_told s_o_told_paper (.ref (o_told 0)) (.ref (o_spare 0)))) cx hA hr hf rfl rfl dX11_asLine_21
theorem dX11_asOpening_0 : decode cX11_asOpening 0 = .ok (.aload_n 0, 1) := by decide +kernel
theorem dX11_asOpening_1 : decode cX11_asOpening 1 = .ok (.dup, 1) := by decide +kernel
theorem dX11_asOpening_2 : decode cX11_asOpening 2 = .ok (.getfield 256, 3) := by decide +kernel
theorem dX11_asOpening_5 : decode cX11_asOpening 5 = .ok (.ldc2_w 273, 3) := by decide +kernel
theorem dX11_asOpening_8 : decode cX11_asOpening 8 = .ok (.ladd, 1) := by decide +kernel
theorem dX11_asOpening_9 : decode cX11_asOpening 9 = .ok (.putfield 256, 3) := by decide +kernel
theorem dX11_asOpening_12 : decode cX11_asOpening 12 = .ok (.aload_n 0, 1) := by decide +kernel
theorem dX11_asOpening_13 : decode cX11_asOpening 13 = .ok (.iload_n 1, 1) := by decide +kernel
theorem dX11_asOpening_14 : decode cX11_asOpening 14 = .ok (.invokevirtual 229, 3) := by decide +kernel
theorem dX11_asOpening_17 : decode cX11_asOpening 17 = .ok (.aload_n 0, 1) := by decide +kernel
theorem dX11_asOpening_18 : decode cX11_asOpening 18 = .ok (.getfield 62, 3) := by decide +kernel
theorem dX11_asOpening_21 : decode cX11_asOpening 21 = .ok (.getfield 89, 3) := by decide +kernel
theorem dX11_asOpening_24 : decode cX11_asOpening 24 = .ok (.aload_n 0, 1) := by decide +kernel
theorem dX11_asOpening_25 : decode cX11_asOpening 25 = .ok (.getfield 62, 3) := by decide +kernel
theorem dX11_asOpening_28 : decode cX11_asOpening 28 = .ok (.getfield 127, 3) := by decide +kernel
theorem dX11_asOpening_31 : decode cX11_asOpening 31 = .ok (.iload_n 1, 1) := by decide +kernel
theorem dX11_asOpening_32 : decode cX11_asOpening 32 = .ok (.invokevirtual 148, 3) := by decide +kernel
theorem dX11_asOpening_35 : decode cX11_asOpening 35 = .ok (.invokevirtual 107, 3) := by decide +kernel
theorem dX11_asOpening_38 : decode cX11_asOpening 38 = .ok (.iadd, 1) := by decide +kernel
theorem dX11_asOpening_39 : decode cX11_asOpening 39 = .ok (.ireturn, 1) := by decide +kernel
theorem q0_20 : Cond.selects RX11 yX11_asLine yX11_asLine ∈ TT := tq0 20 rfl rfl
theorem q4_164 : Cond.methodLink RX11 229 yX11_asLine ∈ TT := tq4 164 rfl rfl
theorem q4_166 : Cond.instanceMethod yX11_asLine ∈ TT := tq4 166 rfl rfl
theorem q4_167 : Cond.code yX11_asLine cX11_asLine 2 (some .int) ∈ TT := tq4 167 rfl rfl
theorem q4_172 : Cond.constantLong RX11 273 (10) ∈ TT := tq4 172 rfl rfl
theorem lk_RX11_229 : vlk RX11 229 yX11_asLine cX11_asLine 2 (some .int) 1 := ⟨List.forall_mem_cons.mpr ⟨q4_164, List.forall_mem_cons.mpr ⟨q4_166, List.forall_mem_cons.mpr ⟨q0_20, List.forall_mem_cons.mpr ⟨q1_1, fun _ h => absurd h List.not_mem_nil⟩⟩⟩⟩, q4_167, by decide, by decide, by decide +kernel⟩
def F_X11_asOpening (s_o : S11) (s_o_told : S7) (s_o_told_paper : S4) (s_o_told_words : S10) (x1 : Int32) : Option (Int32 × S11) := nm ((s11_traced s_o) + (10)) fun t_1 => nm (u11_traced s_o t_1) fun s_o_2 => (F_X11_asLine s_o_2 s_o_told s_o_told_paper x1).bind fun q_3 => (F_X4_wordAt s_o_told_paper x1).bind fun q_4 => (F_X10_syllables s_o_told_words q_4).bind fun q_5 => some ((q_3.1 + q_5), q_3.2)
def w_X11_asOpening (o o_told o_told_paper o_told_words o_text o_verdict o_trial o_mending o_guess o_choice o_firstImage o_secondImage o_spare o_told_forms o_told_stock : Nat → Nat) (cB cI cJ cZ : ClassId) (s_o : S11) (s_o_told : S7) (s_o_told_paper : S4) (s_o_told_words : S10) (rf_o_told : Value) (rf_o_spare : Value) : va_W := List.flatten [(gX11 o cB cI cJ cZ (o_text 0) (o_verdict 0) (o_trial 0) (o_mending 0) (o_guess 0) (o_choice 0) (o_firstImage 0) (o_secondImage 0) rf_o_told rf_o_spare s_o), (gX7 o_told cB cI cJ cZ (o_told_words 0) (o_told_forms 0) (o_told_paper 0) (o_told_stock 0) s_o_told), (gX4 o_told_paper cB cI cJ cZ s_o_told_paper), (gX10 o_told_words cB cI cJ cZ s_o_told_words)]
abbrev rm_X11_asOpening : Room := { frames := 3, cells := 0, slots := 0, locals := 63 }
set_option maxHeartbeats 4000000 in
set_option maxRecDepth 100000 in
theorem c_X11_asOpening (l : Launch) (D : gG) (cB cI cJ cZ : ClassId) (o o_told o_told_paper o_told_words o_text o_verdict o_trial o_mending o_guess o_choice o_firstImage o_secondImage o_spare o_told_forms o_told_stock : Nat → Nat) (s_o : S11) (s_o_told : S7) (s_o_told_paper : S4) (s_o_told_words : S10) (x1 : Int32) (r : Int32 × S11) (hf : F_X11_asOpening s_o s_o_told s_o_told_paper s_o_told_words x1 = some r) : gM l D (tyL cB cI cJ cZ) yX11_asOpening cX11_asOpening 2 (some .int) rm_X11_asOpening [.ref (o 0), .int x1] (w_X11_asOpening o o_told o_told_paper o_told_words o_text o_verdict o_trial o_mending o_guess o_choice o_firstImage o_secondImage o_spare o_told_forms o_told_stock cB cI cJ cZ s_o s_o_told s_o_told_paper s_o_told_words (.ref (o_told 0)) (.ref (o_spare 0))) (some (.int r.1)) (w_X11_asOpening o o_told o_told_paper o_told_words o_text o_verdict o_trial o_mending o_guess o_choice o_firstImage o_secondImage o_spare o_told_forms o_told_stock cB cI cJ cZ r.2 s_o_told s_o_told_paper s_o_told_words (.ref (o_told 0)) (.ref (o_spare 0))) := by
  refine met_of (by decide) (Nat.le_of_ble_eq_true rfl) ?_
  intro p e s m args below meth c A cx hr hA
  show gW p l e rm_X11_asOpening s m args below meth c D A 2 _ 0 0 _ [(0, .ref (o 0)), (1, .int x1)] 0 []
  rw [F_X11_asOpening] at hf
  refine g_aln cx 0 dX11_asOpening_0 rfl ?_
  refine g_dup cx dX11_asOpening_1 rfl ?_
  refine fg_RX11_256 cx 0 rfl rfl dX11_asOpening_2 ?_
  refine g_ldc2 cx q4_172 dX11_asOpening_5 ?_
  refine g_ladd cx dX11_asOpening_8 ?_
  refine g_topl hf (fun t_1 hf => ?_)
  refine fp_RX11_256 cx 0 rfl (Nat.le_of_ble_eq_true rfl) (ws' := (w_X11_asOpening o o_told o_told_paper o_told_words o_text o_verdict o_trial o_mending o_guess o_choice o_firstImage o_secondImage o_spare o_told_forms o_told_stock cB cI cJ cZ (u11_traced s_o t_1) s_o_told s_o_told_paper s_o_told_words (.ref (o_told 0)) (.ref (o_spare 0)))) rfl dX11_asOpening_9 ?_
  refine g_nm (w := fun s_o_2 => (w_X11_asOpening o o_told o_told_paper o_told_words o_text o_verdict o_trial o_mending o_guess o_choice o_firstImage o_secondImage o_spare o_told_forms o_told_stock cB cI cJ cZ s_o_2 s_o_told s_o_told_paper s_o_told_words (.ref (o_told 0)) (.ref (o_spare 0)))) hf (fun s_o_2 hf => ?_)
  refine g_aln cx 0 dX11_asOpening_12 rfl ?_
  refine g_iln cx 1 dX11_asOpening_13 rfl ?_
  refine ob hf (fun q_3 hq_3 hf => ?_)
  refine g_callVGi (gs' := [(gX11 o cB cI cJ cZ (o_text 0) (o_verdict 0) (o_trial 0) (o_mending 0) (o_guess 0) (o_choice 0) (o_firstImage 0) (o_secondImage 0) (.ref (o_told 0)) (.ref (o_spare 0)) q_3.2), (gX7 o_told cB cI cJ cZ (o_told_words 0) (o_told_forms 0) (o_told_paper 0) (o_told_stock 0) s_o_told), (gX4 o_told_paper cB cI cJ cZ s_o_told_paper), (gX10 o_told_words cB cI cJ cZ s_o_told_words)]) cx lk_RX11_229 (c_X11_asLine l D cB cI cJ cZ o o_told o_told_paper o_text o_verdict o_trial o_mending o_guess o_choice o_firstImage o_secondImage o_spare o_told_words o_told_forms o_told_stock s_o_2 s_o_told s_o_told_paper x1 q_3 hq_3) rfl [0, 1, 2] rfl rfl rfl rfl (ci := 9) (q1 := 0) rfl rfl rfl (Nat.le_of_ble_eq_true rfl) ⟨rfl, rfl, Nat.le_of_ble_eq_true rfl, Nat.le_of_ble_eq_true rfl⟩ dX11_asOpening_14 ?_
  refine g_aln cx 0 dX11_asOpening_17 rfl ?_
  refine fg_RX11_62 cx 0 rfl rfl dX11_asOpening_18 ?_
  refine fg_RX11_89 cx 1 rfl rfl dX11_asOpening_21 ?_
  refine g_aln cx 0 dX11_asOpening_24 rfl ?_
  refine fg_RX11_62 cx 0 rfl rfl dX11_asOpening_25 ?_
  refine fg_RX11_127 cx 1 rfl rfl dX11_asOpening_28 ?_
  refine g_iln cx 1 dX11_asOpening_31 rfl ?_
  refine ob hf (fun q_4 hq_4 hf => ?_)
  refine g_callVGiR cx lk_RX11_148 (c_X4_wordAt l D cB cI cJ cZ o_told_paper s_o_told_paper x1 q_4 hq_4) rfl [2] rfl rfl (ci := 4) (q1 := 0) rfl rfl rfl (Nat.le_of_ble_eq_true rfl) ⟨rfl, rfl, Nat.le_of_ble_eq_true rfl, Nat.le_of_ble_eq_true rfl⟩ dX11_asOpening_32 ?_
  refine ob hf (fun q_5 hq_5 hf => ?_)
  refine g_callVGiR cx lk_RX11_107 (c_X10_syllables l D cB cI cJ cZ o_told_words s_o_told_words q_4 q_5 hq_5) rfl [3] rfl rfl (ci := 8) (q1 := 0) rfl rfl rfl (Nat.le_of_ble_eq_true rfl) ⟨rfl, rfl, Nat.le_of_ble_eq_true rfl, Nat.le_of_ble_eq_true rfl⟩ dX11_asOpening_35 ?_
  refine g_iadd cx dX11_asOpening_38 ?_
  exact g_iret (ovf := fun (r : Int32 × S11) => (some (.int r.1))) (wf := fun (r : Int32 × S11) => (w_X11_asOpening o o_told o_told_paper o_told_words o_text o_verdict o_trial o_mending o_guess o_choice o_firstImage o_secondImage o_spare o_told_forms o_told_stock cB cI cJ cZ r.2 s_o_told s_o_told_paper s_o_told_words (.ref (o_told 0)) (.ref (o_spare 0)))) cx hA hr hf rfl rfl dX11_asOpening_39
theorem dX11_asRhymed_0 : decode cX11_asRhymed 0 = .ok (.aload_n 0, 1) := by decide +kernel
theorem dX11_asRhymed_1 : decode cX11_asRhymed 1 = .ok (.dup, 1) := by decide +kernel
theorem dX11_asRhymed_2 : decode cX11_asRhymed 2 = .ok (.getfield 256, 3) := by decide +kernel
theorem dX11_asRhymed_5 : decode cX11_asRhymed 5 = .ok (.ldc2_w 275, 3) := by decide +kernel
theorem dX11_asRhymed_8 : decode cX11_asRhymed 8 = .ok (.ladd, 1) := by decide +kernel
theorem dX11_asRhymed_9 : decode cX11_asRhymed 9 = .ok (.putfield 256, 3) := by decide +kernel
theorem dX11_asRhymed_12 : decode cX11_asRhymed 12 = .ok (.aload_n 0, 1) := by decide +kernel
theorem dX11_asRhymed_13 : decode cX11_asRhymed 13 = .ok (.iload_n 1, 1) := by decide +kernel
theorem dX11_asRhymed_14 : decode cX11_asRhymed 14 = .ok (.invokevirtual 229, 3) := by decide +kernel
theorem dX11_asRhymed_17 : decode cX11_asRhymed 17 = .ok (.aload_n 0, 1) := by decide +kernel
theorem dX11_asRhymed_18 : decode cX11_asRhymed 18 = .ok (.getfield 62, 3) := by decide +kernel
theorem dX11_asRhymed_21 : decode cX11_asRhymed 21 = .ok (.getfield 127, 3) := by decide +kernel
theorem dX11_asRhymed_24 : decode cX11_asRhymed 24 = .ok (.iload_n 1, 1) := by decide +kernel
theorem dX11_asRhymed_25 : decode cX11_asRhymed 25 = .ok (.invokevirtual 270, 3) := by decide +kernel
theorem dX11_asRhymed_28 : decode cX11_asRhymed 28 = .ok (.iadd, 1) := by decide +kernel
theorem dX11_asRhymed_29 : decode cX11_asRhymed 29 = .ok (.ireturn, 1) := by decide +kernel
theorem q4_177 : Cond.constantLong RX11 275 (100) ∈ TT := tq4 177 rfl rfl

def F_X11_asRhymed (s_o : S11) (s_o_told : S7) (s_o_told_paper : S4) (x1 : Int32) : Option (Int32 × S11) := nm ((s11_traced s_o) + (100)) fun t_1 => nm (u11_traced s_o t_1) fun s_o_2 => (F_X11_asLine s_o_2 s_o_told s_o_told_paper x1).bind fun q_3 => (F_X4_beforeAt s_o_told_paper x1).bind fun q_4 => some ((q_3.1 + q_4), q_3.2)
def w_X11_asRhymed (o o_told o_told_paper o_text o_verdict o_trial o_mending o_guess o_choice o_firstImage o_secondImage o_spare o_told_words o_told_forms o_told_stock : Nat → Nat) (cB cI cJ cZ : ClassId) (s_o : S11) (s_o_told : S7) (s_o_told_paper : S4) (rf_o_told : Value) (rf_o_spare : Value) : va_W := List.flatten [(gX11 o cB cI cJ cZ (o_text 0) (o_verdict 0) (o_trial 0) (o_mending 0) (o_guess 0) (o_choice 0) (o_firstImage 0) (o_secondImage 0) rf_o_told rf_o_spare s_o), (gX7 o_told cB cI cJ cZ (o_told_words 0) (o_told_forms 0) (o_told_paper 0) (o_told_stock 0) s_o_told), (gX4 o_told_paper cB cI cJ cZ s_o_told_paper)]
abbrev rm_X11_asRhymed : Room := { frames := 3, cells := 0, slots := 0, locals := 63 }
set_option maxHeartbeats 4000000 in
set_option maxRecDepth 100000 in
theorem c_X11_asRhymed (l : Launch) (D : gG) (cB cI cJ cZ : ClassId) (o o_told o_told_paper o_text o_verdict o_trial o_mending o_guess o_choice o_firstImage o_secondImage o_spare o_told_words o_told_forms o_told_stock : Nat → Nat) (s_o : S11) (s_o_told : S7) (s_o_told_paper : S4) (x1 : Int32) (r : Int32 × S11) (hf : F_X11_asRhymed s_o s_o_told s_o_told_paper x1 = some r) : gM l D (tyL cB cI cJ cZ) yX11_asRhymed cX11_asRhymed 2 (some .int) rm_X11_asRhymed [.ref (o 0), .int x1] (w_X11_asRhymed o o_told o_told_paper o_text o_verdict o_trial o_mending o_guess o_choice o_firstImage o_secondImage o_spare o_told_words o_told_forms o_told_stock cB cI cJ cZ s_o s_o_told s_o_told_paper (.ref (o_told 0)) (.ref (o_spare 0))) (some (.int r.1)) (w_X11_asRhymed o o_told o_told_paper o_text o_verdict o_trial o_mending o_guess o_choice o_firstImage o_secondImage o_spare o_told_words o_told_forms o_told_stock cB cI cJ cZ r.2 s_o_told s_o_told_paper (.ref (o_told 0)) (.ref (o_spare 0))) := by
  refine met_of (by decide) (Nat.le_of_ble_eq_true rfl) ?_
  intro p e s m args below meth c A cx hr hA
  show gW p l e rm_X11_asRhymed s m args below meth c D A 2 _ 0 0 _ [(0, .ref (o 0)), (1, .int x1)] 0 []
  rw [F_X11_asRhymed] at hf
  refine g_aln cx 0 dX11_asRhymed_0 rfl ?_
  refine g_dup cx dX11_asRhymed_1 rfl ?_
  refine fg_RX11_256 cx 0 rfl rfl dX11_asRhymed_2 ?_
  refine g_ldc2 cx q4_177 dX11_asRhymed_5 ?_
  refine g_ladd cx dX11_asRhymed_8 ?_
  refine g_topl hf (fun t_1 hf => ?_)
  refine fp_RX11_256 cx 0 rfl (Nat.le_of_ble_eq_true rfl) (ws' := (w_X11_asRhymed o o_told o_told_paper o_text o_verdict o_trial o_mending o_guess o_choice o_firstImage o_secondImage o_spare o_told_words o_told_forms o_told_stock cB cI cJ cZ (u11_traced s_o t_1) s_o_told s_o_told_paper (.ref (o_told 0)) (.ref (o_spare 0)))) rfl dX11_asRhymed_9 ?_
  refine g_nm (w := fun s_o_2 => (w_X11_asRhymed o o_told o_told_paper o_text o_verdict o_trial o_mending o_guess o_choice o_firstImage o_secondImage o_spare o_told_words o_told_forms o_told_stock cB cI cJ cZ s_o_2 s_o_told s_o_told_paper (.ref (o_told 0)) (.ref (o_spare 0)))) hf (fun s_o_2 hf => ?_)
  refine g_aln cx 0 dX11_asRhymed_12 rfl ?_
  refine g_iln cx 1 dX11_asRhymed_13 rfl ?_
  refine ob hf (fun q_3 hq_3 hf => ?_)
  refine g_callVGi (gs' := [(gX11 o cB cI cJ cZ (o_text 0) (o_verdict 0) (o_trial 0) (o_mending 0) (o_guess 0) (o_choice 0) (o_firstImage 0) (o_secondImage 0) (.ref (o_told 0)) (.ref (o_spare 0)) q_3.2), (gX7 o_told cB cI cJ cZ (o_told_words 0) (o_told_forms 0) (o_told_paper 0) (o_told_stock 0) s_o_told), (gX4 o_told_paper cB cI cJ cZ s_o_told_paper)]) cx lk_RX11_229 (c_X11_asLine l D cB cI cJ cZ o o_told o_told_paper o_text o_verdict o_trial o_mending o_guess o_choice o_firstImage o_secondImage o_spare o_told_words o_told_forms o_told_stock s_o_2 s_o_told s_o_told_paper x1 q_3 hq_3) rfl [0, 1, 2] rfl rfl rfl rfl (ci := 9) (q1 := 0) rfl rfl rfl (Nat.le_of_ble_eq_true rfl) ⟨rfl, rfl, Nat.le_of_ble_eq_true rfl, Nat.le_of_ble_eq_true rfl⟩ dX11_asRhymed_14 ?_
  refine g_aln cx 0 dX11_asRhymed_17 rfl ?_
  refine fg_RX11_62 cx 0 rfl rfl dX11_asRhymed_18 ?_
  refine fg_RX11_127 cx 1 rfl rfl dX11_asRhymed_21 ?_
  refine g_iln cx 1 dX11_asRhymed_24 rfl ?_
  refine ob hf (fun q_4 hq_4 hf => ?_)
  refine g_callVGiR cx lk_RX11_270 (c_X4_beforeAt l D cB cI cJ cZ o_told_paper s_o_told_paper x1 q_4 hq_4) rfl [2] rfl rfl (ci := 4) (q1 := 0) rfl rfl rfl (Nat.le_of_ble_eq_true rfl) ⟨rfl, rfl, Nat.le_of_ble_eq_true rfl, Nat.le_of_ble_eq_true rfl⟩ dX11_asRhymed_25 ?_
  refine g_iadd cx dX11_asRhymed_28 ?_
  exact g_iret (ovf := fun (r : Int32 × S11) => (some (.int r.1))) (wf := fun (r : Int32 × S11) => (w_X11_asRhymed o o_told o_told_paper o_text o_verdict o_trial o_mending o_guess o_choice o_firstImage o_secondImage o_spare o_told_words o_told_forms o_told_stock cB cI cJ cZ r.2 s_o_told s_o_told_paper (.ref (o_told 0)) (.ref (o_spare 0)))) cx hA hr hf rfl rfl dX11_asRhymed_29
theorem dX11_asAnchor_0 : decode cX11_asAnchor 0 = .ok (.aload_n 0, 1) := by decide +kernel
theorem dX11_asAnchor_1 : decode cX11_asAnchor 1 = .ok (.dup, 1) := by decide +kernel
theorem dX11_asAnchor_2 : decode cX11_asAnchor 2 = .ok (.getfield 256, 3) := by decide +kernel
theorem dX11_asAnchor_5 : decode cX11_asAnchor 5 = .ok (.ldc2_w 277, 3) := by decide +kernel
theorem dX11_asAnchor_8 : decode cX11_asAnchor 8 = .ok (.ladd, 1) := by decide +kernel
theorem dX11_asAnchor_9 : decode cX11_asAnchor 9 = .ok (.putfield 256, 3) := by decide +kernel
theorem dX11_asAnchor_12 : decode cX11_asAnchor 12 = .ok (.iconst 2, 1) := by decide +kernel
theorem dX11_asAnchor_13 : decode cX11_asAnchor 13 = .ok (.aload_n 0, 1) := by decide +kernel
theorem dX11_asAnchor_14 : decode cX11_asAnchor 14 = .ok (.iload_n 1, 1) := by decide +kernel
theorem dX11_asAnchor_15 : decode cX11_asAnchor 15 = .ok (.invokevirtual 235, 3) := by decide +kernel
theorem dX11_asAnchor_18 : decode cX11_asAnchor 18 = .ok (.imul, 1) := by decide +kernel
theorem dX11_asAnchor_19 : decode cX11_asAnchor 19 = .ok (.ireturn, 1) := by decide +kernel
theorem q0_22 : Cond.selects RX11 yX11_asRhymed yX11_asRhymed ∈ TT := tq0 22 rfl rfl
theorem q4_173 : Cond.methodLink RX11 235 yX11_asRhymed ∈ TT := tq4 173 rfl rfl
theorem q4_175 : Cond.instanceMethod yX11_asRhymed ∈ TT := tq4 175 rfl rfl
theorem q4_176 : Cond.code yX11_asRhymed cX11_asRhymed 2 (some .int) ∈ TT := tq4 176 rfl rfl
theorem q4_182 : Cond.constantLong RX11 277 (1000) ∈ TT := tq4 182 rfl rfl
theorem lk_RX11_235 : vlk RX11 235 yX11_asRhymed cX11_asRhymed 2 (some .int) 1 := ⟨List.forall_mem_cons.mpr ⟨q4_173, List.forall_mem_cons.mpr ⟨q4_175, List.forall_mem_cons.mpr ⟨q0_22, List.forall_mem_cons.mpr ⟨q1_1, fun _ h => absurd h List.not_mem_nil⟩⟩⟩⟩, q4_176, by decide, by decide, by decide +kernel⟩
def F_X11_asAnchor (s_o : S11) (s_o_told : S7) (s_o_told_paper : S4) (x1 : Int32) : Option (Int32 × S11) := nm ((s11_traced s_o) + (1000)) fun t_1 => nm (u11_traced s_o t_1) fun s_o_2 => (F_X11_asRhymed s_o_2 s_o_told s_o_told_paper x1).bind fun q_3 => some ((2 * q_3.1), q_3.2)
def w_X11_asAnchor (o o_told o_told_paper o_text o_verdict o_trial o_mending o_guess o_choice o_firstImage o_secondImage o_spare o_told_words o_told_forms o_told_stock : Nat → Nat) (cB cI cJ cZ : ClassId) (s_o : S11) (s_o_told : S7) (s_o_told_paper : S4) (rf_o_told : Value) (rf_o_spare : Value) : va_W := List.flatten [(gX11 o cB cI cJ cZ (o_text 0) (o_verdict 0) (o_trial 0) (o_mending 0) (o_guess 0) (o_choice 0) (o_firstImage 0) (o_secondImage 0) rf_o_told rf_o_spare s_o), (gX7 o_told cB cI cJ cZ (o_told_words 0) (o_told_forms 0) (o_told_paper 0) (o_told_stock 0) s_o_told), (gX4 o_told_paper cB cI cJ cZ s_o_told_paper)]
abbrev rm_X11_asAnchor : Room := { frames := 4, cells := 0, slots := 0, locals := 84 }
set_option maxHeartbeats 4000000 in
set_option maxRecDepth 100000 in
theorem c_X11_asAnchor (l : Launch) (D : gG) (cB cI cJ cZ : ClassId) (o o_told o_told_paper o_text o_verdict o_trial o_mending o_guess o_choice o_firstImage o_secondImage o_spare o_told_words o_told_forms o_told_stock : Nat → Nat) (s_o : S11) (s_o_told : S7) (s_o_told_paper : S4) (x1 : Int32) (r : Int32 × S11) (hf : F_X11_asAnchor s_o s_o_told s_o_told_paper x1 = some r) : gM l D (tyL cB cI cJ cZ) yX11_asAnchor cX11_asAnchor 2 (some .int) rm_X11_asAnchor [.ref (o 0), .int x1] (w_X11_asAnchor o o_told o_told_paper o_text o_verdict o_trial o_mending o_guess o_choice o_firstImage o_secondImage o_spare o_told_words o_told_forms o_told_stock cB cI cJ cZ s_o s_o_told s_o_told_paper (.ref (o_told 0)) (.ref (o_spare 0))) (some (.int r.1)) (w_X11_asAnchor o o_told o_told_paper o_text o_verdict o_trial o_mending o_guess o_choice o_firstImage o_secondImage o_spare o_told_words o_told_forms o_told_stock cB cI cJ cZ r.2 s_o_told s_o_told_paper (.ref (o_told 0)) (.ref (o_spare 0))) := by
  refine met_of (by decide) (Nat.le_of_ble_eq_true rfl) ?_
  intro p e s m args below meth c A cx hr hA
  show gW p l e rm_X11_asAnchor s m args below meth c D A 2 _ 0 0 _ [(0, .ref (o 0)), (1, .int x1)] 0 []
  rw [F_X11_asAnchor] at hf
  refine g_aln cx 0 dX11_asAnchor_0 rfl ?_
  refine g_dup cx dX11_asAnchor_1 rfl ?_
  refine fg_RX11_256 cx 0 rfl rfl dX11_asAnchor_2 ?_
  refine g_ldc2 cx q4_182 dX11_asAnchor_5 ?_
  refine g_ladd cx dX11_asAnchor_8 ?_
  refine g_topl hf (fun t_1 hf => ?_)
  refine fp_RX11_256 cx 0 rfl (Nat.le_of_ble_eq_true rfl) (ws' := (w_X11_asAnchor o o_told o_told_paper o_text o_verdict o_trial o_mending o_guess o_choice o_firstImage o_secondImage o_spare o_told_words o_told_forms o_told_stock cB cI cJ cZ (u11_traced s_o t_1) s_o_told s_o_told_paper (.ref (o_told 0)) (.ref (o_spare 0)))) rfl dX11_asAnchor_9 ?_
  refine g_nm (w := fun s_o_2 => (w_X11_asAnchor o o_told o_told_paper o_text o_verdict o_trial o_mending o_guess o_choice o_firstImage o_secondImage o_spare o_told_words o_told_forms o_told_stock cB cI cJ cZ s_o_2 s_o_told s_o_told_paper (.ref (o_told 0)) (.ref (o_spare 0)))) hf (fun s_o_2 hf => ?_)
  refine g_ic cx dX11_asAnchor_12 k_ic2 ?_
  refine g_aln cx 0 dX11_asAnchor_13 rfl ?_
  refine g_iln cx 1 dX11_asAnchor_14 rfl ?_
  refine ob hf (fun q_3 hq_3 hf => ?_)
  refine g_callVGi (gs' := [(gX11 o cB cI cJ cZ (o_text 0) (o_verdict 0) (o_trial 0) (o_mending 0) (o_guess 0) (o_choice 0) (o_firstImage 0) (o_secondImage 0) (.ref (o_told 0)) (.ref (o_spare 0)) q_3.2), (gX7 o_told cB cI cJ cZ (o_told_words 0) (o_told_forms 0) (o_told_paper 0) (o_told_stock 0) s_o_told), (gX4 o_told_paper cB cI cJ cZ s_o_told_paper)]) cx lk_RX11_235 (c_X11_asRhymed l D cB cI cJ cZ o o_told o_told_paper o_text o_verdict o_trial o_mending o_guess o_choice o_firstImage o_secondImage o_spare o_told_words o_told_forms o_told_stock s_o_2 s_o_told s_o_told_paper x1 q_3 hq_3) rfl [0, 1, 2] rfl rfl rfl rfl (ci := 9) (q1 := 0) rfl rfl rfl (Nat.le_of_ble_eq_true rfl) ⟨rfl, rfl, Nat.le_of_ble_eq_true rfl, Nat.le_of_ble_eq_true rfl⟩ dX11_asAnchor_15 ?_
  refine g_imul cx dX11_asAnchor_18 ?_
  exact g_iret (ovf := fun (r : Int32 × S11) => (some (.int r.1))) (wf := fun (r : Int32 × S11) => (w_X11_asAnchor o o_told o_told_paper o_text o_verdict o_trial o_mending o_guess o_choice o_firstImage o_secondImage o_spare o_told_words o_told_forms o_told_stock cB cI cJ cZ r.2 s_o_told s_o_told_paper (.ref (o_told 0)) (.ref (o_spare 0)))) cx hA hr hf rfl rfl dX11_asAnchor_19
theorem dX11_asKey_0 : decode cX11_asKey 0 = .ok (.aload_n 0, 1) := by decide +kernel
theorem dX11_asKey_1 : decode cX11_asKey 1 = .ok (.dup, 1) := by decide +kernel
theorem dX11_asKey_2 : decode cX11_asKey 2 = .ok (.getfield 256, 3) := by decide +kernel
theorem dX11_asKey_5 : decode cX11_asKey 5 = .ok (.ldc2_w 279, 3) := by decide +kernel
theorem dX11_asKey_8 : decode cX11_asKey 8 = .ok (.ladd, 1) := by decide +kernel
theorem dX11_asKey_9 : decode cX11_asKey 9 = .ok (.putfield 256, 3) := by decide +kernel
theorem dX11_asKey_12 : decode cX11_asKey 12 = .ok (.aload_n 0, 1) := by decide +kernel
theorem dX11_asKey_13 : decode cX11_asKey 13 = .ok (.iload_n 1, 1) := by decide +kernel
theorem dX11_asKey_14 : decode cX11_asKey 14 = .ok (.invokevirtual 232, 3) := by decide +kernel
theorem dX11_asKey_17 : decode cX11_asKey 17 = .ok (.iload_n 1, 1) := by decide +kernel
theorem dX11_asKey_18 : decode cX11_asKey 18 = .ok (.iadd, 1) := by decide +kernel
theorem dX11_asKey_19 : decode cX11_asKey 19 = .ok (.ireturn, 1) := by decide +kernel
theorem q0_21 : Cond.selects RX11 yX11_asOpening yX11_asOpening ∈ TT := tq0 21 rfl rfl
theorem q4_168 : Cond.methodLink RX11 232 yX11_asOpening ∈ TT := tq4 168 rfl rfl
theorem q4_170 : Cond.instanceMethod yX11_asOpening ∈ TT := tq4 170 rfl rfl
theorem q4_171 : Cond.code yX11_asOpening cX11_asOpening 2 (some .int) ∈ TT := tq4 171 rfl rfl
theorem q4_187 : Cond.constantLong RX11 279 (10000) ∈ TT := tq4 187 rfl rfl
theorem lk_RX11_232 : vlk RX11 232 yX11_asOpening cX11_asOpening 2 (some .int) 1 := ⟨List.forall_mem_cons.mpr ⟨q4_168, List.forall_mem_cons.mpr ⟨q4_170, List.forall_mem_cons.mpr ⟨q0_21, List.forall_mem_cons.mpr ⟨q1_1, fun _ h => absurd h List.not_mem_nil⟩⟩⟩⟩, q4_171, by decide, by decide, by decide +kernel⟩
def F_X11_asKey (s_o : S11) (s_o_told : S7) (s_o_told_paper : S4) (s_o_told_words : S10) (x1 : Int32) : Option (Int32 × S11) := nm ((s11_traced s_o) + (10000)) fun t_1 => nm (u11_traced s_o t_1) fun s_o_2 => (F_X11_asOpening s_o_2 s_o_told s_o_told_paper s_o_told_words x1).bind fun q_3 => some ((q_3.1 + x1), q_3.2)
def w_X11_asKey (o o_told o_told_paper o_told_words o_text o_verdict o_trial o_mending o_guess o_choice o_firstImage o_secondImage o_spare o_told_forms o_told_stock : Nat → Nat) (cB cI cJ cZ : ClassId) (s_o : S11) (s_o_told : S7) (s_o_told_paper : S4) (s_o_told_words : S10) (rf_o_told : Value) (rf_o_spare : Value) : va_W := List.flatten [(gX11 o cB cI cJ cZ (o_text 0) (o_verdict 0) (o_trial 0) (o_mending 0) (o_guess 0) (o_choice 0) (o_firstImage 0) (o_secondImage 0) rf_o_told rf_o_spare s_o), (gX7 o_told cB cI cJ cZ (o_told_words 0) (o_told_forms 0) (o_told_paper 0) (o_told_stock 0) s_o_told), (gX4 o_told_paper cB cI cJ cZ s_o_told_paper), (gX10 o_told_words cB cI cJ cZ s_o_told_words)]
abbrev rm_X11_asKey : Room := { frames := 4, cells := 0, slots := 0, locals := 84 }
set_option maxHeartbeats 4000000 in
set_option maxRecDepth 100000 in
theorem c_X11_asKey (l : Launch) (D : gG) (cB cI cJ cZ : ClassId) (o o_told o_told_paper o_told_words o_text o_verdict o_trial o_mending o_guess o_choice o_firstImage o_secondImage o_spare o_told_forms o_told_stock : Nat → Nat) (s_o : S11) (s_o_told : S7) (s_o_told_paper : S4) (s_o_told_words : S10) (x1 : Int32) (r : Int32 × S11) (hf : F_X11_asKey s_o s_o_told s_o_told_paper s_o_told_words x1 = some r) : gM l D (tyL cB cI cJ cZ) yX11_asKey cX11_asKey 2 (some .int) rm_X11_asKey [.ref (o 0), .int x1] (w_X11_asKey o o_told o_told_paper o_told_words o_text o_verdict o_trial o_mending o_guess o_choice o_firstImage o_secondImage o_spare o_told_forms o_told_stock cB cI cJ cZ s_o s_o_told s_o_told_paper s_o_told_words (.ref (o_told 0)) (.ref (o_spare 0))) (some (.int r.1)) (w_X11_asKey o o_told o_told_paper o_told_words o_text o_verdict o_trial o_mending o_guess o_choice o_firstImage o_secondImage o_spare o_told_forms o_told_stock cB cI cJ cZ r.2 s_o_told s_o_told_paper s_o_told_words (.ref (o_told 0)) (.ref (o_spare 0))) := by
  refine met_of (by decide) (Nat.le_of_ble_eq_true rfl) ?_
  intro p e s m args below meth c A cx hr hA
  show gW p l e rm_X11_asKey s m args below meth c D A 2 _ 0 0 _ [(0, .ref (o 0)), (1, .int x1)] 0 []
  rw [F_X11_asKey] at hf
  refine g_aln cx 0 dX11_asKey_0 rfl ?_
  refine g_dup cx dX11_asKey_1 rfl ?_
  refine fg_RX11_256 cx 0 rfl rfl dX11_asKey_2 ?_
  refine g_ldc2 cx q4_187 dX11_asKey_5 ?_
  refine g_ladd cx dX11_asKey_8 ?_
  refine g_topl hf (fun t_1 hf => ?_)
  refine fp_RX11_256 cx 0 rfl (Nat.le_of_ble_eq_true rfl) (ws' := (w_X11_asKey o o_told o_told_paper o_told_words o_text o_verdict o_trial o_mending o_guess o_choice o_firstImage o_secondImage o_spare o_told_forms o_told_stock cB cI cJ cZ (u11_traced s_o t_1) s_o_told s_o_told_paper s_o_told_words (.ref (o_told 0)) (.ref (o_spare 0)))) rfl dX11_asKey_9 ?_
  refine g_nm (w := fun s_o_2 => (w_X11_asKey o o_told o_told_paper o_told_words o_text o_verdict o_trial o_mending o_guess o_choice o_firstImage o_secondImage o_spare o_told_forms o_told_stock cB cI cJ cZ s_o_2 s_o_told s_o_told_paper s_o_told_words (.ref (o_told 0)) (.ref (o_spare 0)))) hf (fun s_o_2 hf => ?_)
  refine g_aln cx 0 dX11_asKey_12 rfl ?_
  refine g_iln cx 1 dX11_asKey_13 rfl ?_
  refine ob hf (fun q_3 hq_3 hf => ?_)
  refine g_callVGi (gs' := [(gX11 o cB cI cJ cZ (o_text 0) (o_verdict 0) (o_trial 0) (o_mending 0) (o_guess 0) (o_choice 0) (o_firstImage 0) (o_secondImage 0) (.ref (o_told 0)) (.ref (o_spare 0)) q_3.2), (gX7 o_told cB cI cJ cZ (o_told_words 0) (o_told_forms 0) (o_told_paper 0) (o_told_stock 0) s_o_told), (gX4 o_told_paper cB cI cJ cZ s_o_told_paper), (gX10 o_told_words cB cI cJ cZ s_o_told_words)]) cx lk_RX11_232 (c_X11_asOpening l D cB cI cJ cZ o o_told o_told_paper o_told_words o_text o_verdict o_trial o_mending o_guess o_choice o_firstImage o_secondImage o_spare o_told_forms o_told_stock s_o_2 s_o_told s_o_told_paper s_o_told_words x1 q_3 hq_3) rfl [0, 1, 2, 3] rfl rfl rfl rfl (ci := 9) (q1 := 0) rfl rfl rfl (Nat.le_of_ble_eq_true rfl) ⟨rfl, rfl, Nat.le_of_ble_eq_true rfl, Nat.le_of_ble_eq_true rfl⟩ dX11_asKey_14 ?_
  refine g_iln cx 1 dX11_asKey_17 rfl ?_
  refine g_iadd cx dX11_asKey_18 ?_
  exact g_iret (ovf := fun (r : Int32 × S11) => (some (.int r.1))) (wf := fun (r : Int32 × S11) => (w_X11_asKey o o_told o_told_paper o_told_words o_text o_verdict o_trial o_mending o_guess o_choice o_firstImage o_secondImage o_spare o_told_forms o_told_stock cB cI cJ cZ r.2 s_o_told s_o_told_paper s_o_told_words (.ref (o_told 0)) (.ref (o_spare 0)))) cx hA hr hf rfl rfl dX11_asKey_19
theorem dX11_asFallen_0 : decode cX11_asFallen 0 = .ok (.aload_n 0, 1) := by decide +kernel
theorem dX11_asFallen_1 : decode cX11_asFallen 1 = .ok (.dup, 1) := by decide +kernel
theorem dX11_asFallen_2 : decode cX11_asFallen 2 = .ok (.getfield 256, 3) := by decide +kernel
theorem dX11_asFallen_5 : decode cX11_asFallen 5 = .ok (.ldc2_w 281, 3) := by decide +kernel
theorem dX11_asFallen_8 : decode cX11_asFallen 8 = .ok (.ladd, 1) := by decide +kernel
theorem dX11_asFallen_9 : decode cX11_asFallen 9 = .ok (.putfield 256, 3) := by decide +kernel
theorem dX11_asFallen_12 : decode cX11_asFallen 12 = .ok (.aload_n 0, 1) := by decide +kernel
theorem dX11_asFallen_13 : decode cX11_asFallen 13 = .ok (.iload_n 1, 1) := by decide +kernel
theorem dX11_asFallen_14 : decode cX11_asFallen 14 = .ok (.invokevirtual 229, 3) := by decide +kernel
theorem dX11_asFallen_17 : decode cX11_asFallen 17 = .ok (.aload_n 0, 1) := by decide +kernel
theorem dX11_asFallen_18 : decode cX11_asFallen 18 = .ok (.getfield 62, 3) := by decide +kernel
theorem dX11_asFallen_21 : decode cX11_asFallen 21 = .ok (.getfield 89, 3) := by decide +kernel
theorem dX11_asFallen_24 : decode cX11_asFallen 24 = .ok (.aload_n 0, 1) := by decide +kernel
theorem dX11_asFallen_25 : decode cX11_asFallen 25 = .ok (.getfield 62, 3) := by decide +kernel
theorem dX11_asFallen_28 : decode cX11_asFallen 28 = .ok (.getfield 127, 3) := by decide +kernel
theorem dX11_asFallen_31 : decode cX11_asFallen 31 = .ok (.iload_n 1, 1) := by decide +kernel
theorem dX11_asFallen_32 : decode cX11_asFallen 32 = .ok (.invokevirtual 148, 3) := by decide +kernel
theorem dX11_asFallen_35 : decode cX11_asFallen 35 = .ok (.invokevirtual 103, 3) := by decide +kernel
theorem dX11_asFallen_38 : decode cX11_asFallen 38 = .ok (.isub, 1) := by decide +kernel
theorem dX11_asFallen_39 : decode cX11_asFallen 39 = .ok (.ireturn, 1) := by decide +kernel
theorem q4_192 : Cond.constantLong RX11 281 (100000) ∈ TT := tq4 192 rfl rfl

def F_X11_asFallen (s_o : S11) (s_o_told : S7) (s_o_told_paper : S4) (s_o_told_words : S10) (x1 : Int32) : Option (Int32 × S11) := nm ((s11_traced s_o) + (100000)) fun t_1 => nm (u11_traced s_o t_1) fun s_o_2 => (F_X11_asLine s_o_2 s_o_told s_o_told_paper x1).bind fun q_3 => (F_X4_wordAt s_o_told_paper x1).bind fun q_4 => (F_X10_meaning s_o_told_words q_4).bind fun q_5 => some ((q_3.1 - q_5), q_3.2)
def w_X11_asFallen (o o_told o_told_paper o_told_words o_text o_verdict o_trial o_mending o_guess o_choice o_firstImage o_secondImage o_spare o_told_forms o_told_stock : Nat → Nat) (cB cI cJ cZ : ClassId) (s_o : S11) (s_o_told : S7) (s_o_told_paper : S4) (s_o_told_words : S10) (rf_o_told : Value) (rf_o_spare : Value) : va_W := List.flatten [(gX11 o cB cI cJ cZ (o_text 0) (o_verdict 0) (o_trial 0) (o_mending 0) (o_guess 0) (o_choice 0) (o_firstImage 0) (o_secondImage 0) rf_o_told rf_o_spare s_o), (gX7 o_told cB cI cJ cZ (o_told_words 0) (o_told_forms 0) (o_told_paper 0) (o_told_stock 0) s_o_told), (gX4 o_told_paper cB cI cJ cZ s_o_told_paper), (gX10 o_told_words cB cI cJ cZ s_o_told_words)]
abbrev rm_X11_asFallen : Room := { frames := 3, cells := 0, slots := 0, locals := 63 }
set_option maxHeartbeats 4000000 in
set_option maxRecDepth 100000 in
theorem c_X11_asFallen (l : Launch) (D : gG) (cB cI cJ cZ : ClassId) (o o_told o_told_paper o_told_words o_text o_verdict o_trial o_mending o_guess o_choice o_firstImage o_secondImage o_spare o_told_forms o_told_stock : Nat → Nat) (s_o : S11) (s_o_told : S7) (s_o_told_paper : S4) (s_o_told_words : S10) (x1 : Int32) (r : Int32 × S11) (hf : F_X11_asFallen s_o s_o_told s_o_told_paper s_o_told_words x1 = some r) : gM l D (tyL cB cI cJ cZ) yX11_asFallen cX11_asFallen 2 (some .int) rm_X11_asFallen [.ref (o 0), .int x1] (w_X11_asFallen o o_told o_told_paper o_told_words o_text o_verdict o_trial o_mending o_guess o_choice o_firstImage o_secondImage o_spare o_told_forms o_told_stock cB cI cJ cZ s_o s_o_told s_o_told_paper s_o_told_words (.ref (o_told 0)) (.ref (o_spare 0))) (some (.int r.1)) (w_X11_asFallen o o_told o_told_paper o_told_words o_text o_verdict o_trial o_mending o_guess o_choice o_firstImage o_secondImage o_spare o_told_forms o_told_stock cB cI cJ cZ r.2 s_o_told s_o_told_paper s_o_told_words (.ref (o_told 0)) (.ref (o_spare 0))) := by
  refine met_of (by decide) (Nat.le_of_ble_eq_true rfl) ?_
  intro p e s m args below meth c A cx hr hA
  show gW p l e rm_X11_asFallen s m args below meth c D A 2 _ 0 0 _ [(0, .ref (o 0)), (1, .int x1)] 0 []
  rw [F_X11_asFallen] at hf
  refine g_aln cx 0 dX11_asFallen_0 rfl ?_
  refine g_dup cx dX11_asFallen_1 rfl ?_
  refine fg_RX11_256 cx 0 rfl rfl dX11_asFallen_2 ?_
  refine g_ldc2 cx q4_192 dX11_asFallen_5 ?_
  refine g_ladd cx dX11_asFallen_8 ?_
  refine g_topl hf (fun t_1 hf => ?_)
  refine fp_RX11_256 cx 0 rfl (Nat.le_of_ble_eq_true rfl) (ws' := (w_X11_asFallen o o_told o_told_paper o_told_words o_text o_verdict o_trial o_mending o_guess o_choice o_firstImage o_secondImage o_spare o_told_forms o_told_stock cB cI cJ cZ (u11_traced s_o t_1) s_o_told s_o_told_paper s_o_told_words (.ref (o_told 0)) (.ref (o_spare 0)))) rfl dX11_asFallen_9 ?_
  refine g_nm (w := fun s_o_2 => (w_X11_asFallen o o_told o_told_paper o_told_words o_text o_verdict o_trial o_mending o_guess o_choice o_firstImage o_secondImage o_spare o_told_forms o_told_stock cB cI cJ cZ s_o_2 s_o_told s_o_told_paper s_o_told_words (.ref (o_told 0)) (.ref (o_spare 0)))) hf (fun s_o_2 hf => ?_)
  refine g_aln cx 0 dX11_asFallen_12 rfl ?_
  refine g_iln cx 1 dX11_asFallen_13 rfl ?_
  refine ob hf (fun q_3 hq_3 hf => ?_)
  refine g_callVGi (gs' := [(gX11 o cB cI cJ cZ (o_text 0) (o_verdict 0) (o_trial 0) (o_mending 0) (o_guess 0) (o_choice 0) (o_firstImage 0) (o_secondImage 0) (.ref (o_told 0)) (.ref (o_spare 0)) q_3.2), (gX7 o_told cB cI cJ cZ (o_told_words 0) (o_told_forms 0) (o_told_paper 0) (o_told_stock 0) s_o_told), (gX4 o_told_paper cB cI cJ cZ s_o_told_paper), (gX10 o_told_words cB cI cJ cZ s_o_told_words)]) cx lk_RX11_229 (c_X11_asLine l D cB cI cJ cZ o o_told o_told_paper o_text o_verdict o_trial o_mending o_guess o_choice o_firstImage o_secondImage o_spare o_told_words o_told_forms o_told_stock s_o_2 s_o_told s_o_told_paper x1 q_3 hq_3) rfl [0, 1, 2] rfl rfl rfl rfl (ci := 9) (q1 := 0) rfl rfl rfl (Nat.le_of_ble_eq_true rfl) ⟨rfl, rfl, Nat.le_of_ble_eq_true rfl, Nat.le_of_ble_eq_true rfl⟩ dX11_asFallen_14 ?_
  refine g_aln cx 0 dX11_asFallen_17 rfl ?_
  refine fg_RX11_62 cx 0 rfl rfl dX11_asFallen_18 ?_
  refine fg_RX11_89 cx 1 rfl rfl dX11_asFallen_21 ?_
  refine g_aln cx 0 dX11_asFallen_24 rfl ?_
  refine fg_RX11_62 cx 0 rfl rfl dX11_asFallen_25 ?_
  refine fg_RX11_127 cx 1 rfl rfl dX11_asFallen_28 ?_
  refine g_iln cx 1 dX11_asFallen_31 rfl ?_
  refine ob hf (fun q_4 hq_4 hf => ?_)
  refine g_callVGiR cx lk_RX11_148 (c_X4_wordAt l D cB cI cJ cZ o_told_paper s_o_told_paper x1 q_4 hq_4) rfl [2] rfl rfl (ci := 4) (q1 := 0) rfl rfl rfl (Nat.le_of_ble_eq_true rfl) ⟨rfl, rfl, Nat.le_of_ble_eq_true rfl, Nat.le_of_ble_eq_true rfl⟩ dX11_asFallen_32 ?_
  refine ob hf (fun q_5 hq_5 hf => ?_)
  refine g_callVGiR cx lk_RX11_103 (c_X10_meaning l D cB cI cJ cZ o_told_words s_o_told_words q_4 q_5 hq_5) rfl [3] rfl rfl (ci := 8) (q1 := 0) rfl rfl rfl (Nat.le_of_ble_eq_true rfl) ⟨rfl, rfl, Nat.le_of_ble_eq_true rfl, Nat.le_of_ble_eq_true rfl⟩ dX11_asFallen_35 ?_
  refine g_isub cx dX11_asFallen_38 ?_
  exact g_iret (ovf := fun (r : Int32 × S11) => (some (.int r.1))) (wf := fun (r : Int32 × S11) => (w_X11_asFallen o o_told o_told_paper o_told_words o_text o_verdict o_trial o_mending o_guess o_choice o_firstImage o_secondImage o_spare o_told_forms o_told_stock cB cI cJ cZ r.2 s_o_told s_o_told_paper s_o_told_words (.ref (o_told 0)) (.ref (o_spare 0)))) cx hA hr hf rfl rfl dX11_asFallen_39
theorem dX11_rate_0 : decode cX11_rate 0 = .ok (.aload_n 0, 1) := by decide +kernel
theorem dX11_rate_1 : decode cX11_rate 1 = .ok (.getfield 62, 3) := by decide +kernel
theorem dX11_rate_4 : decode cX11_rate 4 = .ok (.getfield 127, 3) := by decide +kernel
theorem dX11_rate_7 : decode cX11_rate 7 = .ok (.iload_n 2, 1) := by decide +kernel
theorem dX11_rate_8 : decode cX11_rate 8 = .ok (.invokevirtual 147, 3) := by decide +kernel
theorem dX11_rate_11 : decode cX11_rate 11 = .ok (.ifCond .ne 6, 3) := by decide +kernel
theorem dX11_rate_14 : decode cX11_rate 14 = .ok (.ldc 228, 2) := by decide +kernel
theorem dX11_rate_16 : decode cX11_rate 16 = .ok (.ireturn, 1) := by decide +kernel
theorem dX11_rate_17 : decode cX11_rate 17 = .ok (.iload_n 1, 1) := by decide +kernel
theorem dX11_rate_18 : decode cX11_rate 18 = .ok (.tableswitch 74 0 5 #[38, 44, 50, 56, 62, 68], 38) := by decide +kernel
theorem dX11_rate_56 : decode cX11_rate 56 = .ok (.aload_n 0, 1) := by decide +kernel
theorem dX11_rate_57 : decode cX11_rate 57 = .ok (.iload_n 2, 1) := by decide +kernel
theorem dX11_rate_58 : decode cX11_rate 58 = .ok (.invokevirtual 229, 3) := by decide +kernel
theorem dX11_rate_61 : decode cX11_rate 61 = .ok (.ireturn, 1) := by decide +kernel
theorem dX11_rate_62 : decode cX11_rate 62 = .ok (.aload_n 0, 1) := by decide +kernel
theorem dX11_rate_63 : decode cX11_rate 63 = .ok (.iload_n 2, 1) := by decide +kernel
theorem dX11_rate_64 : decode cX11_rate 64 = .ok (.invokevirtual 232, 3) := by decide +kernel
theorem dX11_rate_67 : decode cX11_rate 67 = .ok (.ireturn, 1) := by decide +kernel
theorem dX11_rate_68 : decode cX11_rate 68 = .ok (.aload_n 0, 1) := by decide +kernel
theorem dX11_rate_69 : decode cX11_rate 69 = .ok (.iload_n 2, 1) := by decide +kernel
theorem dX11_rate_70 : decode cX11_rate 70 = .ok (.invokevirtual 235, 3) := by decide +kernel
theorem dX11_rate_73 : decode cX11_rate 73 = .ok (.ireturn, 1) := by decide +kernel
theorem dX11_rate_74 : decode cX11_rate 74 = .ok (.aload_n 0, 1) := by decide +kernel
theorem dX11_rate_75 : decode cX11_rate 75 = .ok (.iload_n 2, 1) := by decide +kernel
theorem dX11_rate_76 : decode cX11_rate 76 = .ok (.invokevirtual 238, 3) := by decide +kernel
theorem dX11_rate_79 : decode cX11_rate 79 = .ok (.ireturn, 1) := by decide +kernel
theorem dX11_rate_80 : decode cX11_rate 80 = .ok (.aload_n 0, 1) := by decide +kernel
theorem dX11_rate_81 : decode cX11_rate 81 = .ok (.iload_n 2, 1) := by decide +kernel
theorem dX11_rate_82 : decode cX11_rate 82 = .ok (.invokevirtual 241, 3) := by decide +kernel
theorem dX11_rate_85 : decode cX11_rate 85 = .ok (.ireturn, 1) := by decide +kernel
theorem dX11_rate_86 : decode cX11_rate 86 = .ok (.aload_n 0, 1) := by decide +kernel
theorem dX11_rate_87 : decode cX11_rate 87 = .ok (.iload_n 2, 1) := by decide +kernel
theorem dX11_rate_88 : decode cX11_rate 88 = .ok (.invokevirtual 244, 3) := by decide +kernel
theorem dX11_rate_91 : decode cX11_rate 91 = .ok (.ireturn, 1) := by decide +kernel
theorem dX11_rate_92 : decode cX11_rate 92 = .ok (.ldc 228, 2) := by decide +kernel
theorem dX11_rate_94 : decode cX11_rate 94 = .ok (.ireturn, 1) := by decide +kernel
theorem sw_5 {x : Int32} (h0 : ¬ x = 0) (h1 : ¬ x = 1) (h2 : ¬ x = 2) (h3 : ¬ x = 3) (h4 : ¬ x = 4) (h5 : ¬ x = 5) : ∀ n : Nat, n ≤ 5 → ¬ x = nI n := by
  intro n hn
  match n, hn with
  | 0, _ => exact h0
  | 1, _ => exact h1
  | 2, _ => exact h2
  | 3, _ => exact h3
  | 4, _ => exact h4
  | 5, _ => exact h5
theorem q0_23 : Cond.selects RX11 yX11_asAnchor yX11_asAnchor ∈ TT := tq0 23 rfl rfl
theorem q0_24 : Cond.selects RX11 yX11_asKey yX11_asKey ∈ TT := tq0 24 rfl rfl
theorem q0_25 : Cond.selects RX11 yX11_asFallen yX11_asFallen ∈ TT := tq0 25 rfl rfl
theorem q4_163 : Cond.constant RX11 228 (-1000000) ∈ TT := tq4 163 rfl rfl
theorem q4_178 : Cond.methodLink RX11 238 yX11_asAnchor ∈ TT := tq4 178 rfl rfl
theorem q4_180 : Cond.instanceMethod yX11_asAnchor ∈ TT := tq4 180 rfl rfl
theorem q4_181 : Cond.code yX11_asAnchor cX11_asAnchor 2 (some .int) ∈ TT := tq4 181 rfl rfl
theorem q4_183 : Cond.methodLink RX11 241 yX11_asKey ∈ TT := tq4 183 rfl rfl
theorem q4_185 : Cond.instanceMethod yX11_asKey ∈ TT := tq4 185 rfl rfl
theorem q4_186 : Cond.code yX11_asKey cX11_asKey 2 (some .int) ∈ TT := tq4 186 rfl rfl
theorem q4_188 : Cond.methodLink RX11 244 yX11_asFallen ∈ TT := tq4 188 rfl rfl
theorem q4_190 : Cond.instanceMethod yX11_asFallen ∈ TT := tq4 190 rfl rfl
theorem q4_191 : Cond.code yX11_asFallen cX11_asFallen 2 (some .int) ∈ TT := tq4 191 rfl rfl
theorem lk_RX11_238 : vlk RX11 238 yX11_asAnchor cX11_asAnchor 2 (some .int) 1 := ⟨List.forall_mem_cons.mpr ⟨q4_178, List.forall_mem_cons.mpr ⟨q4_180, List.forall_mem_cons.mpr ⟨q0_23, List.forall_mem_cons.mpr ⟨q1_1, fun _ h => absurd h List.not_mem_nil⟩⟩⟩⟩, q4_181, by decide, by decide, by decide +kernel⟩
theorem lk_RX11_241 : vlk RX11 241 yX11_asKey cX11_asKey 2 (some .int) 1 := ⟨List.forall_mem_cons.mpr ⟨q4_183, List.forall_mem_cons.mpr ⟨q4_185, List.forall_mem_cons.mpr ⟨q0_24, List.forall_mem_cons.mpr ⟨q1_1, fun _ h => absurd h List.not_mem_nil⟩⟩⟩⟩, q4_186, by decide, by decide, by decide +kernel⟩
theorem lk_RX11_244 : vlk RX11 244 yX11_asFallen cX11_asFallen 2 (some .int) 1 := ⟨List.forall_mem_cons.mpr ⟨q4_188, List.forall_mem_cons.mpr ⟨q4_190, List.forall_mem_cons.mpr ⟨q0_25, List.forall_mem_cons.mpr ⟨q1_1, fun _ h => absurd h List.not_mem_nil⟩⟩⟩⟩, q4_191, by decide, by decide, by decide +kernel⟩
def F_X11_rate (s_o : S11) (s_o_told : S7) (s_o_told_paper : S4) (s_o_told_words : S10) (x1 : Int32) (x2 : Int32) : Option (Int32 × S11) := (F_X4_has s_o_told_paper x2).bind fun q_1 => (if q_1 = 0 then some ((-1000000), s_o) else (if x1 = 0 then (F_X11_asLine s_o s_o_told s_o_told_paper x2).bind fun q_2 => some (q_2.1, q_2.2) else (if x1 = 1 then (F_X11_asOpening s_o s_o_told s_o_told_paper s_o_told_words x2).bind fun q_3 => some (q_3.1, q_3.2) else (if x1 = 2 then (F_X11_asRhymed s_o s_o_told s_o_told_paper x2).bind fun q_4 => some (q_4.1, q_4.2) else (if x1 = 3 then (F_X11_asAnchor s_o s_o_told s_o_told_paper x2).bind fun q_5 => some (q_5.1, q_5.2) else (if x1 = 4 then (F_X11_asKey s_o s_o_told s_o_told_paper s_o_told_words x2).bind fun q_6 => some (q_6.1, q_6.2) else (if x1 = 5 then (F_X11_asFallen s_o s_o_told s_o_told_paper s_o_told_words x2).bind fun q_7 => some (q_7.1, q_7.2) else some ((-1000000), s_o))))))))
def w_X11_rate (o o_told o_told_paper o_told_words o_text o_verdict o_trial o_mending o_guess o_choice o_firstImage o_secondImage o_spare o_told_forms o_told_stock : Nat → Nat) (cB cI cJ cZ : ClassId) (s_o : S11) (s_o_told : S7) (s_o_told_paper : S4) (s_o_told_words : S10) (rf_o_told : Value) (rf_o_spare : Value) : va_W := List.flatten [(gX11 o cB cI cJ cZ (o_text 0) (o_verdict 0) (o_trial 0) (o_mending 0) (o_guess 0) (o_choice 0) (o_firstImage 0) (o_secondImage 0) rf_o_told rf_o_spare s_o), (gX7 o_told cB cI cJ cZ (o_told_words 0) (o_told_forms 0) (o_told_paper 0) (o_told_stock 0) s_o_told), (gX4 o_told_paper cB cI cJ cZ s_o_told_paper), (gX10 o_told_words cB cI cJ cZ s_o_told_words)]
abbrev rm_X11_rate : Room := { frames := 5, cells := 0, slots := 0, locals := 105 }
set_option maxHeartbeats 4000000 in
set_option maxRecDepth 100000 in
theorem c_X11_rate (l : Launch) (D : gG) (cB cI cJ cZ : ClassId) (o o_told o_told_paper o_told_words o_text o_verdict o_trial o_mending o_guess o_choice o_firstImage o_secondImage o_spare o_told_forms o_told_stock : Nat → Nat) (s_o : S11) (s_o_told : S7) (s_o_told_paper : S4) (s_o_told_words : S10) (x1 : Int32) (x2 : Int32) (r : Int32 × S11) (hf : F_X11_rate s_o s_o_told s_o_told_paper s_o_told_words x1 x2 = some r) : gM l D (tyL cB cI cJ cZ) yX11_rate cX11_rate 3 (some .int) rm_X11_rate [.ref (o 0), .int x1, .int x2] (w_X11_rate o o_told o_told_paper o_told_words o_text o_verdict o_trial o_mending o_guess o_choice o_firstImage o_secondImage o_spare o_told_forms o_told_stock cB cI cJ cZ s_o s_o_told s_o_told_paper s_o_told_words (.ref (o_told 0)) (.ref (o_spare 0))) (some (.int r.1)) (w_X11_rate o o_told o_told_paper o_told_words o_text o_verdict o_trial o_mending o_guess o_choice o_firstImage o_secondImage o_spare o_told_forms o_told_stock cB cI cJ cZ r.2 s_o_told s_o_told_paper s_o_told_words (.ref (o_told 0)) (.ref (o_spare 0))) := by
  refine met_of (by decide) (Nat.le_of_ble_eq_true rfl) ?_
  intro p e s m args below meth c A cx hr hA
  show gW p l e rm_X11_rate s m args below meth c D A 3 _ 0 0 _ [(0, .ref (o 0)), (1, .int x1), (2, .int x2)] 0 []
  rw [F_X11_rate] at hf
  refine g_aln cx 0 dX11_rate_0 rfl ?_
  refine fg_RX11_62 cx 0 rfl rfl dX11_rate_1 ?_
  refine fg_RX11_127 cx 1 rfl rfl dX11_rate_4 ?_
  refine g_iln cx 2 dX11_rate_7 rfl ?_
  refine ob hf (fun q_1 hq_1 hf => ?_)
  refine g_callVGiR cx lk_RX11_147 (c_X4_has l D cB cI cJ cZ o_told_paper s_o_told_paper x2 q_1 hq_1) rfl [2] rfl rfl (ci := 4) (q1 := 0) rfl rfl rfl (Nat.le_of_ble_eq_true rfl) ⟨rfl, rfl, Nat.le_of_ble_eq_true rfl, Nat.le_of_ble_eq_true rfl⟩ dX11_rate_8 ?_
  refine g_if_ne (tgt := 17) cx hf dX11_rate_11 rfl (fun hf => ?_) (fun hf => ?_)
  · refine g_iln cx 1 dX11_rate_17 rfl ?_
    by_cases hx0 : x1 = 0
    · rw [if_pos hx0] at hf
      refine g_swIn (tgt := 56) cx 0 hx0 (by decide) dX11_rate_18 (by decide) rfl rfl ?_
      refine g_aln cx 0 dX11_rate_56 rfl ?_
      refine g_iln cx 2 dX11_rate_57 rfl ?_
      refine ob hf (fun q_2 hq_2 hf => ?_)
      refine g_callVGi (gs' := [(gX11 o cB cI cJ cZ (o_text 0) (o_verdict 0) (o_trial 0) (o_mending 0) (o_guess 0) (o_choice 0) (o_firstImage 0) (o_secondImage 0) (.ref (o_told 0)) (.ref (o_spare 0)) q_2.2), (gX7 o_told cB cI cJ cZ (o_told_words 0) (o_told_forms 0) (o_told_paper 0) (o_told_stock 0) s_o_told), (gX4 o_told_paper cB cI cJ cZ s_o_told_paper), (gX10 o_told_words cB cI cJ cZ s_o_told_words)]) cx lk_RX11_229 (c_X11_asLine l D cB cI cJ cZ o o_told o_told_paper o_text o_verdict o_trial o_mending o_guess o_choice o_firstImage o_secondImage o_spare o_told_words o_told_forms o_told_stock s_o s_o_told s_o_told_paper x2 q_2 hq_2) rfl [0, 1, 2] rfl rfl rfl rfl (ci := 9) (q1 := 0) rfl rfl rfl (Nat.le_of_ble_eq_true rfl) ⟨rfl, rfl, Nat.le_of_ble_eq_true rfl, Nat.le_of_ble_eq_true rfl⟩ dX11_rate_58 ?_
      exact g_iret (ovf := fun (r : Int32 × S11) => (some (.int r.1))) (wf := fun (r : Int32 × S11) => (w_X11_rate o o_told o_told_paper o_told_words o_text o_verdict o_trial o_mending o_guess o_choice o_firstImage o_secondImage o_spare o_told_forms o_told_stock cB cI cJ cZ r.2 s_o_told s_o_told_paper s_o_told_words (.ref (o_told 0)) (.ref (o_spare 0)))) cx hA hr hf rfl rfl dX11_rate_61
    rw [if_neg hx0] at hf
    by_cases hx1 : x1 = 1
    · rw [if_pos hx1] at hf
      refine g_swIn (tgt := 62) cx 1 hx1 (by decide) dX11_rate_18 (by decide) rfl rfl ?_
      refine g_aln cx 0 dX11_rate_62 rfl ?_
      refine g_iln cx 2 dX11_rate_63 rfl ?_
      refine ob hf (fun q_3 hq_3 hf => ?_)
      refine g_callVGi (gs' := [(gX11 o cB cI cJ cZ (o_text 0) (o_verdict 0) (o_trial 0) (o_mending 0) (o_guess 0) (o_choice 0) (o_firstImage 0) (o_secondImage 0) (.ref (o_told 0)) (.ref (o_spare 0)) q_3.2), (gX7 o_told cB cI cJ cZ (o_told_words 0) (o_told_forms 0) (o_told_paper 0) (o_told_stock 0) s_o_told), (gX4 o_told_paper cB cI cJ cZ s_o_told_paper), (gX10 o_told_words cB cI cJ cZ s_o_told_words)]) cx lk_RX11_232 (c_X11_asOpening l D cB cI cJ cZ o o_told o_told_paper o_told_words o_text o_verdict o_trial o_mending o_guess o_choice o_firstImage o_secondImage o_spare o_told_forms o_told_stock s_o s_o_told s_o_told_paper s_o_told_words x2 q_3 hq_3) rfl [0, 1, 2, 3] rfl rfl rfl rfl (ci := 9) (q1 := 0) rfl rfl rfl (Nat.le_of_ble_eq_true rfl) ⟨rfl, rfl, Nat.le_of_ble_eq_true rfl, Nat.le_of_ble_eq_true rfl⟩ dX11_rate_64 ?_
      exact g_iret (ovf := fun (r : Int32 × S11) => (some (.int r.1))) (wf := fun (r : Int32 × S11) => (w_X11_rate o o_told o_told_paper o_told_words o_text o_verdict o_trial o_mending o_guess o_choice o_firstImage o_secondImage o_spare o_told_forms o_told_stock cB cI cJ cZ r.2 s_o_told s_o_told_paper s_o_told_words (.ref (o_told 0)) (.ref (o_spare 0)))) cx hA hr hf rfl rfl dX11_rate_67
    rw [if_neg hx1] at hf
    by_cases hx2 : x1 = 2
    · rw [if_pos hx2] at hf
      refine g_swIn (tgt := 68) cx 2 hx2 (by decide) dX11_rate_18 (by decide) rfl rfl ?_
      refine g_aln cx 0 dX11_rate_68 rfl ?_
      refine g_iln cx 2 dX11_rate_69 rfl ?_
      refine ob hf (fun q_4 hq_4 hf => ?_)
      refine g_callVGi (gs' := [(gX11 o cB cI cJ cZ (o_text 0) (o_verdict 0) (o_trial 0) (o_mending 0) (o_guess 0) (o_choice 0) (o_firstImage 0) (o_secondImage 0) (.ref (o_told 0)) (.ref (o_spare 0)) q_4.2), (gX7 o_told cB cI cJ cZ (o_told_words 0) (o_told_forms 0) (o_told_paper 0) (o_told_stock 0) s_o_told), (gX4 o_told_paper cB cI cJ cZ s_o_told_paper), (gX10 o_told_words cB cI cJ cZ s_o_told_words)]) cx lk_RX11_235 (c_X11_asRhymed l D cB cI cJ cZ o o_told o_told_paper o_text o_verdict o_trial o_mending o_guess o_choice o_firstImage o_secondImage o_spare o_told_words o_told_forms o_told_stock s_o s_o_told s_o_told_paper x2 q_4 hq_4) rfl [0, 1, 2] rfl rfl rfl rfl (ci := 9) (q1 := 0) rfl rfl rfl (Nat.le_of_ble_eq_true rfl) ⟨rfl, rfl, Nat.le_of_ble_eq_true rfl, Nat.le_of_ble_eq_true rfl⟩ dX11_rate_70 ?_
      exact g_iret (ovf := fun (r : Int32 × S11) => (some (.int r.1))) (wf := fun (r : Int32 × S11) => (w_X11_rate o o_told o_told_paper o_told_words o_text o_verdict o_trial o_mending o_guess o_choice o_firstImage o_secondImage o_spare o_told_forms o_told_stock cB cI cJ cZ r.2 s_o_told s_o_told_paper s_o_told_words (.ref (o_told 0)) (.ref (o_spare 0)))) cx hA hr hf rfl rfl dX11_rate_73
    rw [if_neg hx2] at hf
    by_cases hx3 : x1 = 3
    · rw [if_pos hx3] at hf
      refine g_swIn (tgt := 74) cx 3 hx3 (by decide) dX11_rate_18 (by decide) rfl rfl ?_
      refine g_aln cx 0 dX11_rate_74 rfl ?_
      refine g_iln cx 2 dX11_rate_75 rfl ?_
      refine ob hf (fun q_5 hq_5 hf => ?_)
      refine g_callVGi (gs' := [(gX11 o cB cI cJ cZ (o_text 0) (o_verdict 0) (o_trial 0) (o_mending 0) (o_guess 0) (o_choice 0) (o_firstImage 0) (o_secondImage 0) (.ref (o_told 0)) (.ref (o_spare 0)) q_5.2), (gX7 o_told cB cI cJ cZ (o_told_words 0) (o_told_forms 0) (o_told_paper 0) (o_told_stock 0) s_o_told), (gX4 o_told_paper cB cI cJ cZ s_o_told_paper), (gX10 o_told_words cB cI cJ cZ s_o_told_words)]) cx lk_RX11_238 (c_X11_asAnchor l D cB cI cJ cZ o o_told o_told_paper o_text o_verdict o_trial o_mending o_guess o_choice o_firstImage o_secondImage o_spare o_told_words o_told_forms o_told_stock s_o s_o_told s_o_told_paper x2 q_5 hq_5) rfl [0, 1, 2] rfl rfl rfl rfl (ci := 9) (q1 := 0) rfl rfl rfl (Nat.le_of_ble_eq_true rfl) ⟨rfl, rfl, Nat.le_of_ble_eq_true rfl, Nat.le_of_ble_eq_true rfl⟩ dX11_rate_76 ?_
      exact g_iret (ovf := fun (r : Int32 × S11) => (some (.int r.1))) (wf := fun (r : Int32 × S11) => (w_X11_rate o o_told o_told_paper o_told_words o_text o_verdict o_trial o_mending o_guess o_choice o_firstImage o_secondImage o_spare o_told_forms o_told_stock cB cI cJ cZ r.2 s_o_told s_o_told_paper s_o_told_words (.ref (o_told 0)) (.ref (o_spare 0)))) cx hA hr hf rfl rfl dX11_rate_79
    rw [if_neg hx3] at hf
    by_cases hx4 : x1 = 4
    · rw [if_pos hx4] at hf
      refine g_swIn (tgt := 80) cx 4 hx4 (by decide) dX11_rate_18 (by decide) rfl rfl ?_
      refine g_aln cx 0 dX11_rate_80 rfl ?_
      refine g_iln cx 2 dX11_rate_81 rfl ?_
      refine ob hf (fun q_6 hq_6 hf => ?_)
      refine g_callVGi (gs' := [(gX11 o cB cI cJ cZ (o_text 0) (o_verdict 0) (o_trial 0) (o_mending 0) (o_guess 0) (o_choice 0) (o_firstImage 0) (o_secondImage 0) (.ref (o_told 0)) (.ref (o_spare 0)) q_6.2), (gX7 o_told cB cI cJ cZ (o_told_words 0) (o_told_forms 0) (o_told_paper 0) (o_told_stock 0) s_o_told), (gX4 o_told_paper cB cI cJ cZ s_o_told_paper), (gX10 o_told_words cB cI cJ cZ s_o_told_words)]) cx lk_RX11_241 (c_X11_asKey l D cB cI cJ cZ o o_told o_told_paper o_told_words o_text o_verdict o_trial o_mending o_guess o_choice o_firstImage o_secondImage o_spare o_told_forms o_told_stock s_o s_o_told s_o_told_paper s_o_told_words x2 q_6 hq_6) rfl [0, 1, 2, 3] rfl rfl rfl rfl (ci := 9) (q1 := 0) rfl rfl rfl (Nat.le_of_ble_eq_true rfl) ⟨rfl, rfl, Nat.le_of_ble_eq_true rfl, Nat.le_of_ble_eq_true rfl⟩ dX11_rate_82 ?_
      exact g_iret (ovf := fun (r : Int32 × S11) => (some (.int r.1))) (wf := fun (r : Int32 × S11) => (w_X11_rate o o_told o_told_paper o_told_words o_text o_verdict o_trial o_mending o_guess o_choice o_firstImage o_secondImage o_spare o_told_forms o_told_stock cB cI cJ cZ r.2 s_o_told s_o_told_paper s_o_told_words (.ref (o_told 0)) (.ref (o_spare 0)))) cx hA hr hf rfl rfl dX11_rate_85
    rw [if_neg hx4] at hf
    by_cases hx5 : x1 = 5
    · rw [if_pos hx5] at hf
      refine g_swIn (tgt := 86) cx 5 hx5 (by decide) dX11_rate_18 (by decide) rfl rfl ?_
      refine g_aln cx 0 dX11_rate_86 rfl ?_
      refine g_iln cx 2 dX11_rate_87 rfl ?_
      refine ob hf (fun q_7 hq_7 hf => ?_)
      refine g_callVGi (gs' := [(gX11 o cB cI cJ cZ (o_text 0) (o_verdict 0) (o_trial 0) (o_mending 0) (o_guess 0) (o_choice 0) (o_firstImage 0) (o_secondImage 0) (.ref (o_told 0)) (.ref (o_spare 0)) q_7.2), (gX7 o_told cB cI cJ cZ (o_told_words 0) (o_told_forms 0) (o_told_paper 0) (o_told_stock 0) s_o_told), (gX4 o_told_paper cB cI cJ cZ s_o_told_paper), (gX10 o_told_words cB cI cJ cZ s_o_told_words)]) cx lk_RX11_244 (c_X11_asFallen l D cB cI cJ cZ o o_told o_told_paper o_told_words o_text o_verdict o_trial o_mending o_guess o_choice o_firstImage o_secondImage o_spare o_told_forms o_told_stock s_o s_o_told s_o_told_paper s_o_told_words x2 q_7 hq_7) rfl [0, 1, 2, 3] rfl rfl rfl rfl (ci := 9) (q1 := 0) rfl rfl rfl (Nat.le_of_ble_eq_true rfl) ⟨rfl, rfl, Nat.le_of_ble_eq_true rfl, Nat.le_of_ble_eq_true rfl⟩ dX11_rate_88 ?_
      exact g_iret (ovf := fun (r : Int32 × S11) => (some (.int r.1))) (wf := fun (r : Int32 × S11) => (w_X11_rate o o_told o_told_paper o_told_words o_text o_verdict o_trial o_mending o_guess o_choice o_firstImage o_secondImage o_spare o_told_forms o_told_stock cB cI cJ cZ r.2 s_o_told s_o_told_paper s_o_told_words (.ref (o_told 0)) (.ref (o_spare 0)))) cx hA hr hf rfl rfl dX11_rate_91
    rw [if_neg hx5] at hf
    refine g_swOut (tgt := 92) cx 5 (sw_5 hx0 hx1 hx2 hx3 hx4 hx5) dX11_rate_18 rfl ?_
    refine g_ldc cx q4_163 dX11_rate_92 ?_
    exact g_iret (ovf := fun (r : Int32 × S11) => (some (.int r.1))) (wf := fun (r : Int32 × S11) => (w_X11_rate o o_told o_told_paper o_told_words o_text o_verdict o_trial o_mending o_guess o_choice o_firstImage o_secondImage o_spare o_told_forms o_told_stock cB cI cJ cZ r.2 s_o_told s_o_told_paper s_o_told_words (.ref (o_told 0)) (.ref (o_spare 0)))) cx hA hr hf rfl rfl dX11_rate_94
  · refine g_ldc cx q4_163 dX11_rate_14 ?_
    exact g_iret (ovf := fun (r : Int32 × S11) => (some (.int r.1))) (wf := fun (r : Int32 × S11) => (w_X11_rate o o_told o_told_paper o_told_words o_text o_verdict o_trial o_mending o_guess o_choice o_firstImage o_secondImage o_spare o_told_forms o_told_stock cB cI cJ cZ r.2 s_o_told s_o_told_paper s_o_told_words (.ref (o_told 0)) (.ref (o_spare 0)))) cx hA hr hf rfl rfl dX11_rate_16
theorem dX11_imageOf_0 : decode cX11_imageOf 0 = .ok (.iload_n 1, 1) := by decide +kernel
theorem dX11_imageOf_1 : decode cX11_imageOf 1 = .ok (.ifCond .ne 10, 3) := by decide +kernel
theorem dX11_imageOf_4 : decode cX11_imageOf 4 = .ok (.aload_n 0, 1) := by decide +kernel
theorem dX11_imageOf_5 : decode cX11_imageOf 5 = .ok (.getfield 53, 3) := by decide +kernel
theorem dX11_imageOf_8 : decode cX11_imageOf 8 = .ok (.goto 7, 3) := by decide +kernel
theorem dX11_imageOf_11 : decode cX11_imageOf 11 = .ok (.aload_n 0, 1) := by decide +kernel
theorem dX11_imageOf_12 : decode cX11_imageOf 12 = .ok (.getfield 56, 3) := by decide +kernel
theorem dX11_imageOf_15 : decode cX11_imageOf 15 = .ok (.areturn, 1) := by decide +kernel
theorem q1_238 : Cond.fieldLink RX11 53 "RhymeLaw" "firstImage" "LRhymeLaw$Paper;" ∈ TT := tq1 238 rfl rfl
theorem q1_239 : Cond.fieldLink RX11 56 "RhymeLaw" "secondImage" "LRhymeLaw$Paper;" ∈ TT := tq1 239 rfl rfl
theorem fg_RX11_56 {p : Program} {l : Launch} {e : Env} {R : Room} {s : State} {m : MethodId} {args : Array Value} {below : List Frame} {meth : Method} {c : Code} {D : gG} {tys : List (ClassId × FieldType)} {A : Nat → Prop} {nL : Nat} {Q : State → Prop} {cells slots : Nat} {cc : ByteArray} {ws : va_W} {L : List (Nat × Value)} {pc : Nat} {stk : List Value} (cx : gX p s m args meth c cc nL RX11 D tys A) {a : Nat} {fs : List Value} {v : Value} (q0 : Nat) (he : ws[q0]? = some (a, .inr (9, fs))) (hv : fs[7]? = some v) (hd : decode cc pc = .ok (.getfield 56, 3)) (kk : gW p l e R s m args below meth c D A nL Q cells slots ws L (pc + 3) (v :: stk)) : gW p l e R s m args below meth c D A nL Q cells slots ws L pc (.ref a :: stk) :=
  g_get cx (C := RX11) (T := TX11) (N := 12) inT11 rfl 7 (Nat.le_of_ble_eq_true rfl) q1_239 rfl q0 he hv hd kk
theorem fg_RX11_53 {p : Program} {l : Launch} {e : Env} {R : Room} {s : State} {m : MethodId} {args : Array Value} {below : List Frame} {meth : Method} {c : Code} {D : gG} {tys : List (ClassId × FieldType)} {A : Nat → Prop} {nL : Nat} {Q : State → Prop} {cells slots : Nat} {cc : ByteArray} {ws : va_W} {L : List (Nat × Value)} {pc : Nat} {stk : List Value} (cx : gX p s m args meth c cc nL RX11 D tys A) {a : Nat} {fs : List Value} {v : Value} (q0 : Nat) (he : ws[q0]? = some (a, .inr (9, fs))) (hv : fs[6]? = some v) (hd : decode cc pc = .ok (.getfield 53, 3)) (kk : gW p l e R s m args below meth c D A nL Q cells slots ws L (pc + 3) (v :: stk)) : gW p l e R s m args below meth c D A nL Q cells slots ws L pc (.ref a :: stk) :=
  g_get cx (C := RX11) (T := TX11) (N := 12) inT11 rfl 6 (Nat.le_of_ble_eq_true rfl) q1_238 rfl q0 he hv hd kk
def F_X11_imageOf_0 (s_o : S11) (x1 : Int32) : Option (Unit) := (if x1 = 0 then some () else none)
def w_X11_imageOf_0 (o o_text o_verdict o_trial o_mending o_guess o_choice o_firstImage o_secondImage o_told o_spare : Nat → Nat) (cB cI cJ cZ : ClassId) (s_o : S11) (rf_o_told : Value) (rf_o_spare : Value) : va_W := List.flatten [(gX11 o cB cI cJ cZ (o_text 0) (o_verdict 0) (o_trial 0) (o_mending 0) (o_guess 0) (o_choice 0) (o_firstImage 0) (o_secondImage 0) rf_o_told rf_o_spare s_o)]
abbrev rm_X11_imageOf_0 : Room := { frames := 0, cells := 0, slots := 0, locals := 0 }
set_option maxHeartbeats 4000000 in
set_option maxRecDepth 100000 in
theorem c_X11_imageOf_0 (l : Launch) (D : gG) (cB cI cJ cZ : ClassId) (o o_text o_verdict o_trial o_mending o_guess o_choice o_firstImage o_secondImage o_told o_spare : Nat → Nat) (s_o : S11) (x1 : Int32) (r : Unit) (hf : F_X11_imageOf_0 s_o x1 = some r) : gM l D (tyL cB cI cJ cZ) yX11_imageOf cX11_imageOf 2 (some (.object "RhymeLaw$Paper")) rm_X11_imageOf_0 [.ref (o 0), .int x1] (w_X11_imageOf_0 o o_text o_verdict o_trial o_mending o_guess o_choice o_firstImage o_secondImage o_told o_spare cB cI cJ cZ s_o (.ref (o_told 0)) (.ref (o_spare 0))) (some (.ref (o_firstImage 0))) (w_X11_imageOf_0 o o_text o_verdict o_trial o_mending o_guess o_choice o_firstImage o_secondImage o_told o_spare cB cI cJ cZ s_o (.ref (o_told 0)) (.ref (o_spare 0))) := by
  refine met_of (by decide) (Nat.le_of_ble_eq_true rfl) ?_
  intro p e s m args below meth c A cx hr hA
  show gW p l e rm_X11_imageOf_0 s m args below meth c D A 2 _ 0 0 _ [(0, .ref (o 0)), (1, .int x1)] 0 []
  rw [F_X11_imageOf_0] at hf
  refine g_iln cx 1 dX11_imageOf_0 rfl ?_
  refine g_if_ne (tgt := 11) cx hf dX11_imageOf_1 rfl (fun hf => ?_) (fun hf => ?_)
  · refine g_aln cx 0 dX11_imageOf_11 rfl ?_
    refine fg_RX11_56 cx 0 rfl rfl dX11_imageOf_12 ?_
    cases hf
  · refine g_aln cx 0 dX11_imageOf_4 rfl ?_
    refine fg_RX11_53 cx 0 rfl rfl dX11_imageOf_5 ?_
    refine g_goto (tgt := 15) cx dX11_imageOf_8 rfl ?_
    exact g_aret (ovf := fun (r : Unit) => (some (.ref (o_firstImage 0)))) (wf := fun (r : Unit) => (w_X11_imageOf_0 o o_text o_verdict o_trial o_mending o_guess o_choice o_firstImage o_secondImage o_told o_spare cB cI cJ cZ s_o (.ref (o_told 0)) (.ref (o_spare 0)))) cx hA hr hf rfl rfl dX11_imageOf_15


def F_X11_imageOf_1 (s_o : S11) (x1 : Int32) : Option (Unit) := (if x1 = 0 then none else some ())
def w_X11_imageOf_1 (o o_text o_verdict o_trial o_mending o_guess o_choice o_firstImage o_secondImage o_told o_spare : Nat → Nat) (cB cI cJ cZ : ClassId) (s_o : S11) (rf_o_told : Value) (rf_o_spare : Value) : va_W := List.flatten [(gX11 o cB cI cJ cZ (o_text 0) (o_verdict 0) (o_trial 0) (o_mending 0) (o_guess 0) (o_choice 0) (o_firstImage 0) (o_secondImage 0) rf_o_told rf_o_spare s_o)]
abbrev rm_X11_imageOf_1 : Room := { frames := 0, cells := 0, slots := 0, locals := 0 }
set_option maxHeartbeats 4000000 in
set_option maxRecDepth 100000 in
theorem c_X11_imageOf_1 (l : Launch) (D : gG) (cB cI cJ cZ : ClassId) (o o_text o_verdict o_trial o_mending o_guess o_choice o_firstImage o_secondImage o_told o_spare : Nat → Nat) (s_o : S11) (x1 : Int32) (r : Unit) (hf : F_X11_imageOf_1 s_o x1 = some r) : gM l D (tyL cB cI cJ cZ) yX11_imageOf cX11_imageOf 2 (some (.object "RhymeLaw$Paper")) rm_X11_imageOf_1 [.ref (o 0), .int x1] (w_X11_imageOf_1 o o_text o_verdict o_trial o_mending o_guess o_choice o_firstImage o_secondImage o_told o_spare cB cI cJ cZ s_o (.ref (o_told 0)) (.ref (o_spare 0))) (some (.ref (o_secondImage 0))) (w_X11_imageOf_1 o o_text o_verdict o_trial o_mending o_guess o_choice o_firstImage o_secondImage o_told o_spare cB cI cJ cZ s_o (.ref (o_told 0)) (.ref (o_spare 0))) := by
  refine met_of (by decide) (Nat.le_of_ble_eq_true rfl) ?_
  intro p e s m args below meth c A cx hr hA
  show gW p l e rm_X11_imageOf_1 s m args below meth c D A 2 _ 0 0 _ [(0, .ref (o 0)), (1, .int x1)] 0 []
  rw [F_X11_imageOf_1] at hf
  refine g_iln cx 1 dX11_imageOf_0 rfl ?_
  refine g_if_ne (tgt := 11) cx hf dX11_imageOf_1 rfl (fun hf => ?_) (fun hf => ?_)
  · refine g_aln cx 0 dX11_imageOf_11 rfl ?_
    refine fg_RX11_56 cx 0 rfl rfl dX11_imageOf_12 ?_
    exact g_aret (ovf := fun (r : Unit) => (some (.ref (o_secondImage 0)))) (wf := fun (r : Unit) => (w_X11_imageOf_1 o o_text o_verdict o_trial o_mending o_guess o_choice o_firstImage o_secondImage o_told o_spare cB cI cJ cZ s_o (.ref (o_told 0)) (.ref (o_spare 0)))) cx hA hr hf rfl rfl dX11_imageOf_15
  · refine g_aln cx 0 dX11_imageOf_4 rfl ?_
    refine fg_RX11_53 cx 0 rfl rfl dX11_imageOf_5 ?_
    refine g_goto (tgt := 15) cx dX11_imageOf_8 rfl ?_
    cases hf
theorem dX11_keep_0 : decode cX11_keep 0 = .ok (.iload_n 1, 1) := by decide +kernel
theorem dX11_keep_1 : decode cX11_keep 1 = .ok (.ifCond .lt 8, 3) := by decide +kernel
theorem dX11_keep_4 : decode cX11_keep 4 = .ok (.iload_n 1, 1) := by decide +kernel
theorem dX11_keep_5 : decode cX11_keep 5 = .ok (.iconst 2, 1) := by decide +kernel
theorem dX11_keep_6 : decode cX11_keep 6 = .ok (.if_icmp .lt 5, 3) := by decide +kernel
theorem dX11_keep_9 : decode cX11_keep 9 = .ok (.iconst (-1), 1) := by decide +kernel
theorem dX11_keep_10 : decode cX11_keep 10 = .ok (.ireturn, 1) := by decide +kernel
theorem dX11_keep_11 : decode cX11_keep 11 = .ok (.aload_n 0, 1) := by decide +kernel
theorem dX11_keep_12 : decode cX11_keep 12 = .ok (.iload_n 1, 1) := by decide +kernel
theorem dX11_keep_13 : decode cX11_keep 13 = .ok (.invokevirtual 247, 3) := by decide +kernel
theorem dX11_keep_16 : decode cX11_keep 16 = .ok (.aload_n 0, 1) := by decide +kernel
theorem dX11_keep_17 : decode cX11_keep 17 = .ok (.getfield 62, 3) := by decide +kernel
theorem dX11_keep_20 : decode cX11_keep 20 = .ok (.getfield 127, 3) := by decide +kernel
theorem dX11_keep_23 : decode cX11_keep 23 = .ok (.invokevirtual 251, 3) := by decide +kernel
theorem dX11_keep_26 : decode cX11_keep 26 = .ok (.aload_n 0, 1) := by decide +kernel
theorem dX11_keep_27 : decode cX11_keep 27 = .ok (.dup, 1) := by decide +kernel
theorem dX11_keep_28 : decode cX11_keep 28 = .ok (.getfield 85, 3) := by decide +kernel
theorem dX11_keep_31 : decode cX11_keep 31 = .ok (.iconst 1, 1) := by decide +kernel
theorem dX11_keep_32 : decode cX11_keep 32 = .ok (.iload_n 1, 1) := by decide +kernel
theorem dX11_keep_33 : decode cX11_keep 33 = .ok (.ishl, 1) := by decide +kernel
theorem dX11_keep_34 : decode cX11_keep 34 = .ok (.ior, 1) := by decide +kernel
theorem dX11_keep_35 : decode cX11_keep 35 = .ok (.putfield 85, 3) := by decide +kernel
theorem dX11_keep_38 : decode cX11_keep 38 = .ok (.aload_n 0, 1) := by decide +kernel
theorem dX11_keep_39 : decode cX11_keep 39 = .ok (.getfield 62, 3) := by decide +kernel
theorem dX11_keep_42 : decode cX11_keep 42 = .ok (.getfield 127, 3) := by decide +kernel
theorem dX11_keep_45 : decode cX11_keep 45 = .ok (.invokevirtual 136, 3) := by decide +kernel
theorem dX11_keep_48 : decode cX11_keep 48 = .ok (.ireturn, 1) := by decide +kernel
theorem q0_26 : Cond.selects RX11 yX11_imageOf yX11_imageOf ∈ TT := tq0 26 rfl rfl
theorem q4_197 : Cond.methodLink RX11 247 yX11_imageOf ∈ TT := tq4 197 rfl rfl
theorem q4_199 : Cond.instanceMethod yX11_imageOf ∈ TT := tq4 199 rfl rfl
theorem q4_200 : Cond.code yX11_imageOf cX11_imageOf 2 (some (.object "RhymeLaw$Paper")) ∈ TT := tq4 200 rfl rfl
theorem lk_RX11_247 : vlk RX11 247 yX11_imageOf cX11_imageOf 2 (some (.object "RhymeLaw$Paper")) 1 := ⟨List.forall_mem_cons.mpr ⟨q4_197, List.forall_mem_cons.mpr ⟨q4_199, List.forall_mem_cons.mpr ⟨q0_26, List.forall_mem_cons.mpr ⟨q1_1, fun _ h => absurd h List.not_mem_nil⟩⟩⟩⟩, q4_200, by decide, by decide, by decide +kernel⟩
theorem fg_RX11_85 {p : Program} {l : Launch} {e : Env} {R : Room} {s : State} {m : MethodId} {args : Array Value} {below : List Frame} {meth : Method} {c : Code} {D : gG} {tys : List (ClassId × FieldType)} {A : Nat → Prop} {nL : Nat} {Q : State → Prop} {cells slots : Nat} {cc : ByteArray} {ws : va_W} {L : List (Nat × Value)} {pc : Nat} {stk : List Value} (cx : gX p s m args meth c cc nL RX11 D tys A) {a : Nat} {fs : List Value} {v : Value} (q0 : Nat) (he : ws[q0]? = some (a, .inr (9, fs))) (hv : fs[10]? = some v) (hd : decode cc pc = .ok (.getfield 85, 3)) (kk : gW p l e R s m args below meth c D A nL Q cells slots ws L (pc + 3) (v :: stk)) : gW p l e R s m args below meth c D A nL Q cells slots ws L pc (.ref a :: stk) :=
  g_get cx (C := RX11) (T := TX11) (N := 12) inT11 rfl 10 (Nat.le_of_ble_eq_true rfl) q2_2 rfl q0 he hv hd kk
def F_X11_keep_0 (s_o : S11) (s_o_firstImage : S4) (s_o_told : S7) (s_o_told_paper : S4) (x1 : Int32) : Option (Int32 × S11 × S4) := (if x1 < 0 then some ((-1), s_o, s_o_firstImage) else (if x1 < 2 then (F_X11_imageOf_0 s_o x1).bind fun q_1 => (F_X4_copyFrom s_o_told_paper s_o_firstImage).bind fun q_2 => nm (u11_kept s_o ((s11_kept s_o) ||| (1 <<< (x1 &&& 31)))) fun s_o_3 => (F_X4_size s_o_told_paper).bind fun q_4 => some (q_4, s_o_3, q_2) else some ((-1), s_o, s_o_firstImage)))
def w_X11_keep_0 (o o_firstImage o_told o_told_paper o_text o_verdict o_trial o_mending o_guess o_choice o_secondImage o_spare o_told_words o_told_forms o_told_stock : Nat → Nat) (cB cI cJ cZ : ClassId) (s_o : S11) (s_o_firstImage : S4) (s_o_told : S7) (s_o_told_paper : S4) (rf_o_told : Value) (rf_o_spare : Value) : va_W := List.flatten [(gX11 o cB cI cJ cZ (o_text 0) (o_verdict 0) (o_trial 0) (o_mending 0) (o_guess 0) (o_choice 0) (o_firstImage 0) (o_secondImage 0) rf_o_told rf_o_spare s_o), (gX4 o_firstImage cB cI cJ cZ s_o_firstImage), (gX7 o_told cB cI cJ cZ (o_told_words 0) (o_told_forms 0) (o_told_paper 0) (o_told_stock 0) s_o_told), (gX4 o_told_paper cB cI cJ cZ s_o_told_paper)]
abbrev rm_X11_keep_0 : Room := { frames := 3, cells := 0, slots := 0, locals := 68 }
set_option maxHeartbeats 4000000 in
set_option maxRecDepth 100000 in
theorem c_X11_keep_0 (l : Launch) (D : gG) (cB cI cJ cZ : ClassId) (o o_firstImage o_told o_told_paper o_text o_verdict o_trial o_mending o_guess o_choice o_secondImage o_spare o_told_words o_told_forms o_told_stock : Nat → Nat) (s_o : S11) (s_o_firstImage : S4) (s_o_told : S7) (s_o_told_paper : S4) (x1 : Int32) (r : Int32 × S11 × S4) (hf : F_X11_keep_0 s_o s_o_firstImage s_o_told s_o_told_paper x1 = some r) : gM l D (tyL cB cI cJ cZ) yX11_keep cX11_keep 2 (some .int) rm_X11_keep_0 [.ref (o 0), .int x1] (w_X11_keep_0 o o_firstImage o_told o_told_paper o_text o_verdict o_trial o_mending o_guess o_choice o_secondImage o_spare o_told_words o_told_forms o_told_stock cB cI cJ cZ s_o s_o_firstImage s_o_told s_o_told_paper (.ref (o_told 0)) (.ref (o_spare 0))) (some (.int r.1)) (w_X11_keep_0 o o_firstImage o_told o_told_paper o_text o_verdict o_trial o_mending o_guess o_choice o_secondImage o_spare o_told_words o_told_forms o_told_stock cB cI cJ cZ r.2.1 r.2.2 s_o_told s_o_told_paper (.ref (o_told 0)) (.ref (o_spare 0))) := by
  refine met_of (by decide) (Nat.le_of_ble_eq_true rfl) ?_
  intro p e s m args below meth c A cx hr hA
  show gW p l e rm_X11_keep_0 s m args below meth c D A 2 _ 0 0 _ [(0, .ref (o 0)), (1, .int x1)] 0 []
  rw [F_X11_keep_0] at hf
  refine g_iln cx 1 dX11_keep_0 rfl ?_
  refine g_if_lt (tgt := 9) cx hf dX11_keep_1 rfl (fun hf => ?_) (fun hf => ?_)
  · refine g_ic cx dX11_keep_9 k_icm1 ?_
    exact g_iret (ovf := fun (r : Int32 × S11 × S4) => (some (.int r.1))) (wf := fun (r : Int32 × S11 × S4) => (w_X11_keep_0 o o_firstImage o_told o_told_paper o_text o_verdict o_trial o_mending o_guess o_choice o_secondImage o_spare o_told_words o_told_forms o_told_stock cB cI cJ cZ r.2.1 r.2.2 s_o_told s_o_told_paper (.ref (o_told 0)) (.ref (o_spare 0)))) cx hA hr hf rfl rfl dX11_keep_10
  · refine g_iln cx 1 dX11_keep_4 rfl ?_
    refine g_ic cx dX11_keep_5 k_ic2 ?_
    refine g_ic_lt (tgt := 11) cx hf dX11_keep_6 rfl (fun hf => ?_) (fun hf => ?_)
    · refine g_aln cx 0 dX11_keep_11 rfl ?_
      refine g_iln cx 1 dX11_keep_12 rfl ?_
      refine ob hf (fun q_1 hq_1 hf => ?_)
      refine g_callVGrR cx lk_RX11_247 (c_X11_imageOf_0 l D cB cI cJ cZ o o_text o_verdict o_trial o_mending o_guess o_choice o_firstImage o_secondImage o_told o_spare s_o x1 q_1 hq_1) rfl [0] rfl rfl (ci := 9) (q1 := 0) rfl rfl rfl (Nat.le_of_ble_eq_true rfl) ⟨rfl, rfl, Nat.le_of_ble_eq_true rfl, Nat.le_of_ble_eq_true rfl⟩ dX11_keep_13 ?_
      refine g_aln cx 0 dX11_keep_16 rfl ?_
      refine fg_RX11_62 cx 0 rfl rfl dX11_keep_17 ?_
      refine fg_RX11_127 cx 5 rfl rfl dX11_keep_20 ?_
      refine ob hf (fun q_2 hq_2 hf => ?_)
      refine g_callVGv (gs' := [(gX11 o cB cI cJ cZ (o_text 0) (o_verdict 0) (o_trial 0) (o_mending 0) (o_guess 0) (o_choice 0) (o_firstImage 0) (o_secondImage 0) (.ref (o_told 0)) (.ref (o_spare 0)) s_o), (gX4 o_firstImage cB cI cJ cZ q_2), (gX7 o_told cB cI cJ cZ (o_told_words 0) (o_told_forms 0) (o_told_paper 0) (o_told_stock 0) s_o_told), (gX4 o_told_paper cB cI cJ cZ s_o_told_paper)]) cx lk_RX11_251 (c_X4_copyFrom l D cB cI cJ cZ o_told_paper o_firstImage s_o_told_paper s_o_firstImage q_2 hq_2) rfl [3, 1] rfl rfl rfl rfl (ci := 4) (q1 := 4) rfl rfl rfl (Nat.le_of_ble_eq_true rfl) ⟨rfl, rfl, Nat.le_of_ble_eq_true rfl, Nat.le_of_ble_eq_true rfl⟩ dX11_keep_23 ?_
      refine g_aln cx 0 dX11_keep_26 rfl ?_
      refine g_dup cx dX11_keep_27 rfl ?_
      refine fg_RX11_85 cx 0 rfl rfl dX11_keep_28 ?_
      refine g_ic cx dX11_keep_31 k_ic1 ?_
      refine g_iln cx 1 dX11_keep_32 rfl ?_
      refine g_ishl cx dX11_keep_33 ?_
      refine g_ior cx dX11_keep_34 ?_
      refine fp_RX11_85 cx 0 rfl (Nat.le_of_ble_eq_true rfl) (ws' := (w_X11_keep_0 o o_firstImage o_told o_told_paper o_text o_verdict o_trial o_mending o_guess o_choice o_secondImage o_spare o_told_words o_told_forms o_told_stock cB cI cJ cZ (u11_kept s_o ((s11_kept s_o) ||| (1 <<< (x1 &&& 31)))) q_2 s_o_told s_o_told_paper (.ref (o_told 0)) (.ref (o_spare 0)))) rfl dX11_keep_35 ?_
      refine g_nm (w := fun s_o_3 => (w_X11_keep_0 o o_firstImage o_told o_told_paper o_text o_verdict o_trial o_mending o_guess o_choice o_secondImage o_spare o_told_words o_told_forms o_told_stock cB cI cJ cZ s_o_3 q_2 s_o_told s_o_told_paper (.ref (o_told 0)) (.ref (o_spare 0)))) hf (fun s_o_3 hf => ?_)
      refine g_aln cx 0 dX11_keep_38 rfl ?_
      refine fg_RX11_62 cx 0 rfl rfl dX11_keep_39 ?_
      refine fg_RX11_127 cx 5 rfl rfl dX11_keep_42 ?_
      refine ob hf (fun q_4 hq_4 hf => ?_)
      refine g_callVGiR cx lk_RX11_136 (c_X4_size l D cB cI cJ cZ o_told_paper s_o_told_paper q_4 hq_4) rfl [3] rfl rfl (ci := 4) (q1 := 0) rfl rfl rfl (Nat.le_of_ble_eq_true rfl) ⟨rfl, rfl, Nat.le_of_ble_eq_true rfl, Nat.le_of_ble_eq_true rfl⟩ dX11_keep_45 ?_
      exact g_iret (ovf := fun (r : Int32 × S11 × S4) => (some (.int r.1))) (wf := fun (r : Int32 × S11 × S4) => (w_X11_keep_0 o o_firstImage o_told o_told_paper o_text o_verdict o_trial o_mending o_guess o_choice o_secondImage o_spare o_told_words o_told_forms o_told_stock cB cI cJ cZ r.2.1 r.2.2 s_o_told s_o_told_paper (.ref (o_told 0)) (.ref (o_spare 0)))) cx hA hr hf rfl rfl dX11_keep_48
    · refine g_ic cx dX11_keep_9 k_icm1 ?_
      exact g_iret (ovf := fun (r : Int32 × S11 × S4) => (some (.int r.1))) (wf := fun (r : Int32 × S11 × S4) => (w_X11_keep_0 o o_firstImage o_told o_told_paper o_text o_verdict o_trial o_mending o_guess o_choice o_secondImage o_spare o_told_words o_told_forms o_told_stock cB cI cJ cZ r.2.1 r.2.2 s_o_told s_o_told_paper (.ref (o_told 0)) (.ref (o_spare 0)))) cx hA hr hf rfl rfl dX11_keep_10


def F_X11_keep_1 (s_o : S11) (s_o_secondImage : S4) (s_o_told : S7) (s_o_told_paper : S4) (x1 : Int32) : Option (Int32 × S11 × S4) := (if x1 < 0 then some ((-1), s_o, s_o_secondImage) else (if x1 < 2 then (F_X11_imageOf_1 s_o x1).bind fun q_1 => (F_X4_copyFrom s_o_told_paper s_o_secondImage).bind fun q_2 => nm (u11_kept s_o ((s11_kept s_o) ||| (1 <<< (x1 &&& 31)))) fun s_o_3 => (F_X4_size s_o_told_paper).bind fun q_4 => some (q_4, s_o_3, q_2) else some ((-1), s_o, s_o_secondImage)))
def w_X11_keep_1 (o o_secondImage o_told o_told_paper o_text o_verdict o_trial o_mending o_guess o_choice o_firstImage o_spare o_told_words o_told_forms o_told_stock : Nat → Nat) (cB cI cJ cZ : ClassId) (s_o : S11) (s_o_secondImage : S4) (s_o_told : S7) (s_o_told_paper : S4) (rf_o_told : Value) (rf_o_spare : Value) : va_W := List.flatten [(gX11 o cB cI cJ cZ (o_text 0) (o_verdict 0) (o_trial 0) (o_mending 0) (o_guess 0) (o_choice 0) (o_firstImage 0) (o_secondImage 0) rf_o_told rf_o_spare s_o), (gX4 o_secondImage cB cI cJ cZ s_o_secondImage), (gX7 o_told cB cI cJ cZ (o_told_words 0) (o_told_forms 0) (o_told_paper 0) (o_told_stock 0) s_o_told), (gX4 o_told_paper cB cI cJ cZ s_o_told_paper)]
abbrev rm_X11_keep_1 : Room := { frames := 3, cells := 0, slots := 0, locals := 68 }
set_option maxHeartbeats 4000000 in
set_option maxRecDepth 100000 in
theorem c_X11_keep_1 (l : Launch) (D : gG) (cB cI cJ cZ : ClassId) (o o_secondImage o_told o_told_paper o_text o_verdict o_trial o_mending o_guess o_choice o_firstImage o_spare o_told_words o_told_forms o_told_stock : Nat → Nat) (s_o : S11) (s_o_secondImage : S4) (s_o_told : S7) (s_o_told_paper : S4) (x1 : Int32) (r : Int32 × S11 × S4) (hf : F_X11_keep_1 s_o s_o_secondImage s_o_told s_o_told_paper x1 = some r) : gM l D (tyL cB cI cJ cZ) yX11_keep cX11_keep 2 (some .int) rm_X11_keep_1 [.ref (o 0), .int x1] (w_X11_keep_1 o o_secondImage o_told o_told_paper o_text o_verdict o_trial o_mending o_guess o_choice o_firstImage o_spare o_told_words o_told_forms o_told_stock cB cI cJ cZ s_o s_o_secondImage s_o_told s_o_told_paper (.ref (o_told 0)) (.ref (o_spare 0))) (some (.int r.1)) (w_X11_keep_1 o o_secondImage o_told o_told_paper o_text o_verdict o_trial o_mending o_guess o_choice o_firstImage o_spare o_told_words o_told_forms o_told_stock cB cI cJ cZ r.2.1 r.2.2 s_o_told s_o_told_paper (.ref (o_told 0)) (.ref (o_spare 0))) := by
  refine met_of (by decide) (Nat.le_of_ble_eq_true rfl) ?_
  intro p e s m args below meth c A cx hr hA
  show gW p l e rm_X11_keep_1 s m args below meth c D A 2 _ 0 0 _ [(0, .ref (o 0)), (1, .int x1)] 0 []
  rw [F_X11_keep_1] at hf
  refine g_iln cx 1 dX11_keep_0 rfl ?_
  refine g_if_lt (tgt := 9) cx hf dX11_keep_1 rfl (fun hf => ?_) (fun hf => ?_)
  · refine g_ic cx dX11_keep_9 k_icm1 ?_
    exact g_iret (ovf := fun (r : Int32 × S11 × S4) => (some (.int r.1))) (wf := fun (r : Int32 × S11 × S4) => (w_X11_keep_1 o o_secondImage o_told o_told_paper o_text o_verdict o_trial o_mending o_guess o_choice o_firstImage o_spare o_told_words o_told_forms o_told_stock cB cI cJ cZ r.2.1 r.2.2 s_o_told s_o_told_paper (.ref (o_told 0)) (.ref (o_spare 0)))) cx hA hr hf rfl rfl dX11_keep_10
  · refine g_iln cx 1 dX11_keep_4 rfl ?_
    refine g_ic cx dX11_keep_5 k_ic2 ?_
    refine g_ic_lt (tgt := 11) cx hf dX11_keep_6 rfl (fun hf => ?_) (fun hf => ?_)
    · refine g_aln cx 0 dX11_keep_11 rfl ?_
      refine g_iln cx 1 dX11_keep_12 rfl ?_
      refine ob hf (fun q_1 hq_1 hf => ?_)
      refine g_callVGrR cx lk_RX11_247 (c_X11_imageOf_1 l D cB cI cJ cZ o o_text o_verdict o_trial o_mending o_guess o_choice o_firstImage o_secondImage o_told o_spare s_o x1 q_1 hq_1) rfl [0] rfl rfl (ci := 9) (q1 := 0) rfl rfl rfl (Nat.le_of_ble_eq_true rfl) ⟨rfl, rfl, Nat.le_of_ble_eq_true rfl, Nat.le_of_ble_eq_true rfl⟩ dX11_keep_13 ?_
      refine g_aln cx 0 dX11_keep_16 rfl ?_
      refine fg_RX11_62 cx 0 rfl rfl dX11_keep_17 ?_
      refine fg_RX11_127 cx 5 rfl rfl dX11_keep_20 ?_
      refine ob hf (fun q_2 hq_2 hf => ?_)
      refine g_callVGv (gs' := [(gX11 o cB cI cJ cZ (o_text 0) (o_verdict 0) (o_trial 0) (o_mending 0) (o_guess 0) (o_choice 0) (o_firstImage 0) (o_secondImage 0) (.ref (o_told 0)) (.ref (o_spare 0)) s_o), (gX4 o_secondImage cB cI cJ cZ q_2), (gX7 o_told cB cI cJ cZ (o_told_words 0) (o_told_forms 0) (o_told_paper 0) (o_told_stock 0) s_o_told), (gX4 o_told_paper cB cI cJ cZ s_o_told_paper)]) cx lk_RX11_251 (c_X4_copyFrom l D cB cI cJ cZ o_told_paper o_secondImage s_o_told_paper s_o_secondImage q_2 hq_2) rfl [3, 1] rfl rfl rfl rfl (ci := 4) (q1 := 4) rfl rfl rfl (Nat.le_of_ble_eq_true rfl) ⟨rfl, rfl, Nat.le_of_ble_eq_true rfl, Nat.le_of_ble_eq_true rfl⟩ dX11_keep_23 ?_
      refine g_aln cx 0 dX11_keep_26 rfl ?_
      refine g_dup cx dX11_keep_27 rfl ?_
      refine fg_RX11_85 cx 0 rfl rfl dX11_keep_28 ?_
      refine g_ic cx dX11_keep_31 k_ic1 ?_
      refine g_iln cx 1 dX11_keep_32 rfl ?_
      refine g_ishl cx dX11_keep_33 ?_
      refine g_ior cx dX11_keep_34 ?_
      refine fp_RX11_85 cx 0 rfl (Nat.le_of_ble_eq_true rfl) (ws' := (w_X11_keep_1 o o_secondImage o_told o_told_paper o_text o_verdict o_trial o_mending o_guess o_choice o_firstImage o_spare o_told_words o_told_forms o_told_stock cB cI cJ cZ (u11_kept s_o ((s11_kept s_o) ||| (1 <<< (x1 &&& 31)))) q_2 s_o_told s_o_told_paper (.ref (o_told 0)) (.ref (o_spare 0)))) rfl dX11_keep_35 ?_
      refine g_nm (w := fun s_o_3 => (w_X11_keep_1 o o_secondImage o_told o_told_paper o_text o_verdict o_trial o_mending o_guess o_choice o_firstImage o_spare o_told_words o_told_forms o_told_stock cB cI cJ cZ s_o_3 q_2 s_o_told s_o_told_paper (.ref (o_told 0)) (.ref (o_spare 0)))) hf (fun s_o_3 hf => ?_)
      refine g_aln cx 0 dX11_keep_38 rfl ?_
      refine fg_RX11_62 cx 0 rfl rfl dX11_keep_39 ?_
      refine fg_RX11_127 cx 5 rfl rfl dX11_keep_42 ?_
      refine ob hf (fun q_4 hq_4 hf => ?_)
      refine g_callVGiR cx lk_RX11_136 (c_X4_size l D cB cI cJ cZ o_told_paper s_o_told_paper q_4 hq_4) rfl [3] rfl rfl (ci := 4) (q1 := 0) rfl rfl rfl (Nat.le_of_ble_eq_true rfl) ⟨rfl, rfl, Nat.le_of_ble_eq_true rfl, Nat.le_of_ble_eq_true rfl⟩ dX11_keep_45 ?_
      exact g_iret (ovf := fun (r : Int32 × S11 × S4) => (some (.int r.1))) (wf := fun (r : Int32 × S11 × S4) => (w_X11_keep_1 o o_secondImage o_told o_told_paper o_text o_verdict o_trial o_mending o_guess o_choice o_firstImage o_spare o_told_words o_told_forms o_told_stock cB cI cJ cZ r.2.1 r.2.2 s_o_told s_o_told_paper (.ref (o_told 0)) (.ref (o_spare 0)))) cx hA hr hf rfl rfl dX11_keep_48
    · refine g_ic cx dX11_keep_9 k_icm1 ?_
      exact g_iret (ovf := fun (r : Int32 × S11 × S4) => (some (.int r.1))) (wf := fun (r : Int32 × S11 × S4) => (w_X11_keep_1 o o_secondImage o_told o_told_paper o_text o_verdict o_trial o_mending o_guess o_choice o_firstImage o_spare o_told_words o_told_forms o_told_stock cB cI cJ cZ r.2.1 r.2.2 s_o_told s_o_told_paper (.ref (o_told 0)) (.ref (o_spare 0)))) cx hA hr hf rfl rfl dX11_keep_10
theorem dX11_back_0 : decode cX11_back 0 = .ok (.iload_n 1, 1) := by decide +kernel
theorem dX11_back_1 : decode cX11_back 1 = .ok (.ifCond .lt 8, 3) := by decide +kernel
theorem dX11_back_4 : decode cX11_back 4 = .ok (.iload_n 1, 1) := by decide +kernel
theorem dX11_back_5 : decode cX11_back 5 = .ok (.iconst 2, 1) := by decide +kernel
theorem dX11_back_6 : decode cX11_back 6 = .ok (.if_icmp .lt 5, 3) := by decide +kernel
theorem dX11_back_9 : decode cX11_back 9 = .ok (.iconst (-1), 1) := by decide +kernel
theorem dX11_back_10 : decode cX11_back 10 = .ok (.ireturn, 1) := by decide +kernel
theorem dX11_back_11 : decode cX11_back 11 = .ok (.aload_n 0, 1) := by decide +kernel
theorem dX11_back_12 : decode cX11_back 12 = .ok (.getfield 85, 3) := by decide +kernel
theorem dX11_back_15 : decode cX11_back 15 = .ok (.iload_n 1, 1) := by decide +kernel
theorem dX11_back_16 : decode cX11_back 16 = .ok (.ishr, 1) := by decide +kernel
theorem dX11_back_17 : decode cX11_back 17 = .ok (.iconst 1, 1) := by decide +kernel
theorem dX11_back_18 : decode cX11_back 18 = .ok (.iand, 1) := by decide +kernel
theorem dX11_back_19 : decode cX11_back 19 = .ok (.ifCond .ne 6, 3) := by decide +kernel
theorem dX11_back_22 : decode cX11_back 22 = .ok (.bipush (-2), 2) := by decide +kernel
theorem dX11_back_24 : decode cX11_back 24 = .ok (.ireturn, 1) := by decide +kernel
theorem dX11_back_25 : decode cX11_back 25 = .ok (.aload_n 0, 1) := by decide +kernel
theorem dX11_back_26 : decode cX11_back 26 = .ok (.getfield 62, 3) := by decide +kernel
theorem dX11_back_29 : decode cX11_back 29 = .ok (.getfield 127, 3) := by decide +kernel
theorem dX11_back_32 : decode cX11_back 32 = .ok (.aload_n 0, 1) := by decide +kernel
theorem dX11_back_33 : decode cX11_back 33 = .ok (.iload_n 1, 1) := by decide +kernel
theorem dX11_back_34 : decode cX11_back 34 = .ok (.invokevirtual 247, 3) := by decide +kernel
theorem dX11_back_37 : decode cX11_back 37 = .ok (.invokevirtual 251, 3) := by decide +kernel
theorem dX11_back_40 : decode cX11_back 40 = .ok (.aload_n 0, 1) := by decide +kernel
theorem dX11_back_41 : decode cX11_back 41 = .ok (.getfield 62, 3) := by decide +kernel
theorem dX11_back_44 : decode cX11_back 44 = .ok (.getfield 127, 3) := by decide +kernel
theorem dX11_back_47 : decode cX11_back 47 = .ok (.invokevirtual 136, 3) := by decide +kernel
theorem dX11_back_50 : decode cX11_back 50 = .ok (.ireturn, 1) := by decide +kernel


def F_X11_back_0 (s_o : S11) (s_o_firstImage : S4) (s_o_told : S7) (s_o_told_paper : S4) (x1 : Int32) : Option (Int32 × S4) := (if x1 < 0 then some ((-1), s_o_told_paper) else (if x1 < 2 then (if (((s11_kept s_o) >>> (x1 &&& 31)) &&& 1) = 0 then some ((-2), s_o_told_paper) else (F_X11_imageOf_0 s_o x1).bind fun q_1 => (F_X4_copyFrom s_o_firstImage s_o_told_paper).bind fun q_2 => (F_X4_size q_2).bind fun q_3 => some (q_3, q_2)) else some ((-1), s_o_told_paper)))
def w_X11_back_0 (o o_firstImage o_told o_told_paper o_text o_verdict o_trial o_mending o_guess o_choice o_secondImage o_spare o_told_words o_told_forms o_told_stock : Nat → Nat) (cB cI cJ cZ : ClassId) (s_o : S11) (s_o_firstImage : S4) (s_o_told : S7) (s_o_told_paper : S4) (rf_o_told : Value) (rf_o_spare : Value) : va_W := List.flatten [(gX11 o cB cI cJ cZ (o_text 0) (o_verdict 0) (o_trial 0) (o_mending 0) (o_guess 0) (o_choice 0) (o_firstImage 0) (o_secondImage 0) rf_o_told rf_o_spare s_o), (gX4 o_firstImage cB cI cJ cZ s_o_firstImage), (gX7 o_told cB cI cJ cZ (o_told_words 0) (o_told_forms 0) (o_told_paper 0) (o_told_stock 0) s_o_told), (gX4 o_told_paper cB cI cJ cZ s_o_told_paper)]
abbrev rm_X11_back_0 : Room := { frames := 3, cells := 0, slots := 0, locals := 68 }
set_option maxHeartbeats 4000000 in
set_option maxRecDepth 100000 in
theorem c_X11_back_0 (l : Launch) (D : gG) (cB cI cJ cZ : ClassId) (o o_firstImage o_told o_told_paper o_text o_verdict o_trial o_mending o_guess o_choice o_secondImage o_spare o_told_words o_told_forms o_told_stock : Nat → Nat) (s_o : S11) (s_o_firstImage : S4) (s_o_told : S7) (s_o_told_paper : S4) (x1 : Int32) (r : Int32 × S4) (hf : F_X11_back_0 s_o s_o_firstImage s_o_told s_o_told_paper x1 = some r) : gM l D (tyL cB cI cJ cZ) yX11_back cX11_back 2 (some .int) rm_X11_back_0 [.ref (o 0), .int x1] (w_X11_back_0 o o_firstImage o_told o_told_paper o_text o_verdict o_trial o_mending o_guess o_choice o_secondImage o_spare o_told_words o_told_forms o_told_stock cB cI cJ cZ s_o s_o_firstImage s_o_told s_o_told_paper (.ref (o_told 0)) (.ref (o_spare 0))) (some (.int r.1)) (w_X11_back_0 o o_firstImage o_told o_told_paper o_text o_verdict o_trial o_mending o_guess o_choice o_secondImage o_spare o_told_words o_told_forms o_told_stock cB cI cJ cZ s_o s_o_firstImage s_o_told r.2 (.ref (o_told 0)) (.ref (o_spare 0))) := by
  refine met_of (by decide) (Nat.le_of_ble_eq_true rfl) ?_
  intro p e s m args below meth c A cx hr hA
  show gW p l e rm_X11_back_0 s m args below meth c D A 2 _ 0 0 _ [(0, .ref (o 0)), (1, .int x1)] 0 []
  rw [F_X11_back_0] at hf
  refine g_iln cx 1 dX11_back_0 rfl ?_
  refine g_if_lt (tgt := 9) cx hf dX11_back_1 rfl (fun hf => ?_) (fun hf => ?_)
  · refine g_ic cx dX11_back_9 k_icm1 ?_
    exact g_iret (ovf := fun (r : Int32 × S4) => (some (.int r.1))) (wf := fun (r : Int32 × S4) => (w_X11_back_0 o o_firstImage o_told o_told_paper o_text o_verdict o_trial o_mending o_guess o_choice o_secondImage o_spare o_told_words o_told_forms o_told_stock cB cI cJ cZ s_o s_o_firstImage s_o_told r.2 (.ref (o_told 0)) (.ref (o_spare 0)))) cx hA hr hf rfl rfl dX11_back_10
  · refine g_iln cx 1 dX11_back_4 rfl ?_
    refine g_ic cx dX11_back_5 k_ic2 ?_
    refine g_ic_lt (tgt := 11) cx hf dX11_back_6 rfl (fun hf => ?_) (fun hf => ?_)
    · refine g_aln cx 0 dX11_back_11 rfl ?_
      refine fg_RX11_85 cx 0 rfl rfl dX11_back_12 ?_
      refine g_iln cx 1 dX11_back_15 rfl ?_
      refine g_ishr cx dX11_back_16 ?_
      refine g_ic cx dX11_back_17 k_ic1 ?_
      refine g_iand cx dX11_back_18 ?_
      refine g_if_ne (tgt := 25) cx hf dX11_back_19 rfl (fun hf => ?_) (fun hf => ?_)
      · refine g_aln cx 0 dX11_back_25 rfl ?_
        refine fg_RX11_62 cx 0 rfl rfl dX11_back_26 ?_
        refine fg_RX11_127 cx 5 rfl rfl dX11_back_29 ?_
        refine g_aln cx 0 dX11_back_32 rfl ?_
        refine g_iln cx 1 dX11_back_33 rfl ?_
        refine ob hf (fun q_1 hq_1 hf => ?_)
        refine g_callVGrR cx lk_RX11_247 (c_X11_imageOf_0 l D cB cI cJ cZ o o_text o_verdict o_trial o_mending o_guess o_choice o_firstImage o_secondImage o_told o_spare s_o x1 q_1 hq_1) rfl [0] rfl rfl (ci := 9) (q1 := 0) rfl rfl rfl (Nat.le_of_ble_eq_true rfl) ⟨rfl, rfl, Nat.le_of_ble_eq_true rfl, Nat.le_of_ble_eq_true rfl⟩ dX11_back_34 ?_
        refine ob hf (fun q_2 hq_2 hf => ?_)
        refine g_callVGv (gs' := [(gX11 o cB cI cJ cZ (o_text 0) (o_verdict 0) (o_trial 0) (o_mending 0) (o_guess 0) (o_choice 0) (o_firstImage 0) (o_secondImage 0) (.ref (o_told 0)) (.ref (o_spare 0)) s_o), (gX4 o_firstImage cB cI cJ cZ s_o_firstImage), (gX7 o_told cB cI cJ cZ (o_told_words 0) (o_told_forms 0) (o_told_paper 0) (o_told_stock 0) s_o_told), (gX4 o_told_paper cB cI cJ cZ q_2)]) cx lk_RX11_251 (c_X4_copyFrom l D cB cI cJ cZ o_firstImage o_told_paper s_o_firstImage s_o_told_paper q_2 hq_2) rfl [1, 3] rfl rfl rfl rfl (ci := 4) (q1 := 4) rfl rfl rfl (Nat.le_of_ble_eq_true rfl) ⟨rfl, rfl, Nat.le_of_ble_eq_true rfl, Nat.le_of_ble_eq_true rfl⟩ dX11_back_37 ?_
        refine g_aln cx 0 dX11_back_40 rfl ?_
        refine fg_RX11_62 cx 0 rfl rfl dX11_back_41 ?_
        refine fg_RX11_127 cx 5 rfl rfl dX11_back_44 ?_
        refine ob hf (fun q_3 hq_3 hf => ?_)
        refine g_callVGiR cx lk_RX11_136 (c_X4_size l D cB cI cJ cZ o_told_paper q_2 q_3 hq_3) rfl [3] rfl rfl (ci := 4) (q1 := 0) rfl rfl rfl (Nat.le_of_ble_eq_true rfl) ⟨rfl, rfl, Nat.le_of_ble_eq_true rfl, Nat.le_of_ble_eq_true rfl⟩ dX11_back_47 ?_
        exact g_iret (ovf := fun (r : Int32 × S4) => (some (.int r.1))) (wf := fun (r : Int32 × S4) => (w_X11_back_0 o o_firstImage o_told o_told_paper o_text o_verdict o_trial o_mending o_guess o_choice o_secondImage o_spare o_told_words o_told_forms o_told_stock cB cI cJ cZ s_o s_o_firstImage s_o_told r.2 (.ref (o_told 0)) (.ref (o_spare 0)))) cx hA hr hf rfl rfl dX11_back_50
      · refine g_bp cx dX11_back_22 k_bpm2 ?_
        exact g_iret (ovf := fun (r : Int32 × S4) => (some (.int r.1))) (wf := fun (r : Int32 × S4) => (w_X11_back_0 o o_firstImage o_told o_told_paper o_text o_verdict o_trial o_mending o_guess o_choice o_secondImage o_spare o_told_words o_told_forms o_told_stock cB cI cJ cZ s_o s_o_firstImage s_o_told r.2 (.ref (o_told 0)) (.ref (o_spare 0)))) cx hA hr hf rfl rfl dX11_back_24
    · refine g_ic cx dX11_back_9 k_icm1 ?_
      exact g_iret (ovf := fun (r : Int32 × S4) => (some (.int r.1))) (wf := fun (r : Int32 × S4) => (w_X11_back_0 o o_firstImage o_told o_told_paper o_text o_verdict o_trial o_mending o_guess o_choice o_secondImage o_spare o_told_words o_told_forms o_told_stock cB cI cJ cZ s_o s_o_firstImage s_o_told r.2 (.ref (o_told 0)) (.ref (o_spare 0)))) cx hA hr hf rfl rfl dX11_back_10


def F_X11_back_1 (s_o : S11) (s_o_secondImage : S4) (s_o_told : S7) (s_o_told_paper : S4) (x1 : Int32) : Option (Int32 × S4) := (if x1 < 0 then some ((-1), s_o_told_paper) else (if x1 < 2 then (if (((s11_kept s_o) >>> (x1 &&& 31)) &&& 1) = 0 then some ((-2), s_o_told_paper) else (F_X11_imageOf_1 s_o x1).bind fun q_1 => (F_X4_copyFrom s_o_secondImage s_o_told_paper).bind fun q_2 => (F_X4_size q_2).bind fun q_3 => some (q_3, q_2)) else some ((-1), s_o_told_paper)))
def w_X11_back_1 (o o_secondImage o_told o_told_paper o_text o_verdict o_trial o_mending o_guess o_choice o_firstImage o_spare o_told_words o_told_forms o_told_stock : Nat → Nat) (cB cI cJ cZ : ClassId) (s_o : S11) (s_o_secondImage : S4) (s_o_told : S7) (s_o_told_paper : S4) (rf_o_told : Value) (rf_o_spare : Value) : va_W := List.flatten [(gX11 o cB cI cJ cZ (o_text 0) (o_verdict 0) (o_trial 0) (o_mending 0) (o_guess 0) (o_choice 0) (o_firstImage 0) (o_secondImage 0) rf_o_told rf_o_spare s_o), (gX4 o_secondImage cB cI cJ cZ s_o_secondImage), (gX7 o_told cB cI cJ cZ (o_told_words 0) (o_told_forms 0) (o_told_paper 0) (o_told_stock 0) s_o_told), (gX4 o_told_paper cB cI cJ cZ s_o_told_paper)]
abbrev rm_X11_back_1 : Room := { frames := 3, cells := 0, slots := 0, locals := 68 }
set_option maxHeartbeats 4000000 in
set_option maxRecDepth 100000 in
theorem c_X11_back_1 (l : Launch) (D : gG) (cB cI cJ cZ : ClassId) (o o_secondImage o_told o_told_paper o_text o_verdict o_trial o_mending o_guess o_choice o_firstImage o_spare o_told_words o_told_forms o_told_stock : Nat → Nat) (s_o : S11) (s_o_secondImage : S4) (s_o_told : S7) (s_o_told_paper : S4) (x1 : Int32) (r : Int32 × S4) (hf : F_X11_back_1 s_o s_o_secondImage s_o_told s_o_told_paper x1 = some r) : gM l D (tyL cB cI cJ cZ) yX11_back cX11_back 2 (some .int) rm_X11_back_1 [.ref (o 0), .int x1] (w_X11_back_1 o o_secondImage o_told o_told_paper o_text o_verdict o_trial o_mending o_guess o_choice o_firstImage o_spare o_told_words o_told_forms o_told_stock cB cI cJ cZ s_o s_o_secondImage s_o_told s_o_told_paper (.ref (o_told 0)) (.ref (o_spare 0))) (some (.int r.1)) (w_X11_back_1 o o_secondImage o_told o_told_paper o_text o_verdict o_trial o_mending o_guess o_choice o_firstImage o_spare o_told_words o_told_forms o_told_stock cB cI cJ cZ s_o s_o_secondImage s_o_told r.2 (.ref (o_told 0)) (.ref (o_spare 0))) := by
  refine met_of (by decide) (Nat.le_of_ble_eq_true rfl) ?_
  intro p e s m args below meth c A cx hr hA
  show gW p l e rm_X11_back_1 s m args below meth c D A 2 _ 0 0 _ [(0, .ref (o 0)), (1, .int x1)] 0 []
  rw [F_X11_back_1] at hf
  refine g_iln cx 1 dX11_back_0 rfl ?_
  refine g_if_lt (tgt := 9) cx hf dX11_back_1 rfl (fun hf => ?_) (fun hf => ?_)
  · refine g_ic cx dX11_back_9 k_icm1 ?_
    exact g_iret (ovf := fun (r : Int32 × S4) => (some (.int r.1))) (wf := fun (r : Int32 × S4) => (w_X11_back_1 o o_secondImage o_told o_told_paper o_text o_verdict o_trial o_mending o_guess o_choice o_firstImage o_spare o_told_words o_told_forms o_told_stock cB cI cJ cZ s_o s_o_secondImage s_o_told r.2 (.ref (o_told 0)) (.ref (o_spare 0)))) cx hA hr hf rfl rfl dX11_back_10
  · refine g_iln cx 1 dX11_back_4 rfl ?_
    refine g_ic cx dX11_back_5 k_ic2 ?_
    refine g_ic_lt (tgt := 11) cx hf dX11_back_6 rfl (fun hf => ?_) (fun hf => ?_)
    · refine g_aln cx 0 dX11_back_11 rfl ?_
      refine fg_RX11_85 cx 0 rfl rfl dX11_back_12 ?_
      refine g_iln cx 1 dX11_back_15 rfl ?_
      refine g_ishr cx dX11_back_16 ?_
      refine g_ic cx dX11_back_17 k_ic1 ?_
      refine g_iand cx dX11_back_18 ?_
      refine g_if_ne (tgt := 25) cx hf dX11_back_19 rfl (fun hf => ?_) (fun hf => ?_)
      · refine g_aln cx 0 dX11_back_25 rfl ?_
        refine fg_RX11_62 cx 0 rfl rfl dX11_back_26 ?_
        refine fg_RX11_127 cx 5 rfl rfl dX11_back_29 ?_
        refine g_aln cx 0 dX11_back_32 rfl ?_
        refine g_iln cx 1 dX11_back_33 rfl ?_
        refine ob hf (fun q_1 hq_1 hf => ?_)
        refine g_callVGrR cx lk_RX11_247 (c_X11_imageOf_1 l D cB cI cJ cZ o o_text o_verdict o_trial o_mending o_guess o_choice o_firstImage o_secondImage o_told o_spare s_o x1 q_1 hq_1) rfl [0] rfl rfl (ci := 9) (q1 := 0) rfl rfl rfl (Nat.le_of_ble_eq_true rfl) ⟨rfl, rfl, Nat.le_of_ble_eq_true rfl, Nat.le_of_ble_eq_true rfl⟩ dX11_back_34 ?_
        refine ob hf (fun q_2 hq_2 hf => ?_)
        refine g_callVGv (gs' := [(gX11 o cB cI cJ cZ (o_text 0) (o_verdict 0) (o_trial 0) (o_mending 0) (o_guess 0) (o_choice 0) (o_firstImage 0) (o_secondImage 0) (.ref (o_told 0)) (.ref (o_spare 0)) s_o), (gX4 o_secondImage cB cI cJ cZ s_o_secondImage), (gX7 o_told cB cI cJ cZ (o_told_words 0) (o_told_forms 0) (o_told_paper 0) (o_told_stock 0) s_o_told), (gX4 o_told_paper cB cI cJ cZ q_2)]) cx lk_RX11_251 (c_X4_copyFrom l D cB cI cJ cZ o_secondImage o_told_paper s_o_secondImage s_o_told_paper q_2 hq_2) rfl [1, 3] rfl rfl rfl rfl (ci := 4) (q1 := 4) rfl rfl rfl (Nat.le_of_ble_eq_true rfl) ⟨rfl, rfl, Nat.le_of_ble_eq_true rfl, Nat.le_of_ble_eq_true rfl⟩ dX11_back_37 ?_
        refine g_aln cx 0 dX11_back_40 rfl ?_
        refine fg_RX11_62 cx 0 rfl rfl dX11_back_41 ?_
        refine fg_RX11_127 cx 5 rfl rfl dX11_back_44 ?_
        refine ob hf (fun q_3 hq_3 hf => ?_)
        refine g_callVGiR cx lk_RX11_136 (c_X4_size l D cB cI cJ cZ o_told_paper q_2 q_3 hq_3) rfl [3] rfl rfl (ci := 4) (q1 := 0) rfl rfl rfl (Nat.le_of_ble_eq_true rfl) ⟨rfl, rfl, Nat.le_of_ble_eq_true rfl, Nat.le_of_ble_eq_true rfl⟩ dX11_back_47 ?_
        exact g_iret (ovf := fun (r : Int32 × S4) => (some (.int r.1))) (wf := fun (r : Int32 × S4) => (w_X11_back_1 o o_secondImage o_told o_told_paper o_text o_verdict o_trial o_mending o_guess o_choice o_firstImage o_spare o_told_words o_told_forms o_told_stock cB cI cJ cZ s_o s_o_secondImage s_o_told r.2 (.ref (o_told 0)) (.ref (o_spare 0)))) cx hA hr hf rfl rfl dX11_back_50
      · refine g_bp cx dX11_back_22 k_bpm2 ?_
        exact g_iret (ovf := fun (r : Int32 × S4) => (some (.int r.1))) (wf := fun (r : Int32 × S4) => (w_X11_back_1 o o_secondImage o_told o_told_paper o_text o_verdict o_trial o_mending o_guess o_choice o_firstImage o_spare o_told_words o_told_forms o_told_stock cB cI cJ cZ s_o s_o_secondImage s_o_told r.2 (.ref (o_told 0)) (.ref (o_spare 0)))) cx hA hr hf rfl rfl dX11_back_24
    · refine g_ic cx dX11_back_9 k_icm1 ?_
      exact g_iret (ovf := fun (r : Int32 × S4) => (some (.int r.1))) (wf := fun (r : Int32 × S4) => (w_X11_back_1 o o_secondImage o_told o_told_paper o_text o_verdict o_trial o_mending o_guess o_choice o_firstImage o_spare o_told_words o_told_forms o_told_stock cB cI cJ cZ s_o s_o_secondImage s_o_told r.2 (.ref (o_told 0)) (.ref (o_spare 0)))) cx hA hr hf rfl rfl dX11_back_10
theorem dX11_count_0 : decode cX11_count 0 = .ok (.iload_n 1, 1) := by decide +kernel
theorem dX11_count_1 : decode cX11_count 1 = .ok (.tableswitch 87 0 4 #[35, 46, 57, 68, 79], 35) := by decide +kernel
theorem dX11_count_36 : decode cX11_count 36 = .ok (.aload_n 0, 1) := by decide +kernel
theorem dX11_count_37 : decode cX11_count 37 = .ok (.getfield 62, 3) := by decide +kernel
theorem dX11_count_40 : decode cX11_count 40 = .ok (.getfield 89, 3) := by decide +kernel
theorem dX11_count_43 : decode cX11_count 43 = .ok (.invokevirtual 211, 3) := by decide +kernel
theorem dX11_count_46 : decode cX11_count 46 = .ok (.ireturn, 1) := by decide +kernel
theorem dX11_count_47 : decode cX11_count 47 = .ok (.aload_n 0, 1) := by decide +kernel
theorem dX11_count_48 : decode cX11_count 48 = .ok (.getfield 62, 3) := by decide +kernel
theorem dX11_count_51 : decode cX11_count 51 = .ok (.getfield 110, 3) := by decide +kernel
theorem dX11_count_54 : decode cX11_count 54 = .ok (.invokevirtual 255, 3) := by decide +kernel
theorem dX11_count_57 : decode cX11_count 57 = .ok (.ireturn, 1) := by decide +kernel
theorem dX11_count_58 : decode cX11_count 58 = .ok (.aload_n 0, 1) := by decide +kernel
theorem dX11_count_59 : decode cX11_count 59 = .ok (.getfield 62, 3) := by decide +kernel
theorem dX11_count_62 : decode cX11_count 62 = .ok (.getfield 127, 3) := by decide +kernel
theorem dX11_count_65 : decode cX11_count 65 = .ok (.invokevirtual 136, 3) := by decide +kernel
theorem dX11_count_68 : decode cX11_count 68 = .ok (.ireturn, 1) := by decide +kernel
theorem dX11_count_69 : decode cX11_count 69 = .ok (.aload_n 0, 1) := by decide +kernel
theorem dX11_count_70 : decode cX11_count 70 = .ok (.getfield 62, 3) := by decide +kernel
theorem dX11_count_73 : decode cX11_count 73 = .ok (.getfield 133, 3) := by decide +kernel
theorem dX11_count_76 : decode cX11_count 76 = .ok (.invokevirtual 136, 3) := by decide +kernel
theorem dX11_count_79 : decode cX11_count 79 = .ok (.ireturn, 1) := by decide +kernel
theorem dX11_count_80 : decode cX11_count 80 = .ok (.aload_n 0, 1) := by decide +kernel
theorem dX11_count_81 : decode cX11_count 81 = .ok (.getfield 10, 3) := by decide +kernel
theorem dX11_count_84 : decode cX11_count 84 = .ok (.invokevirtual 69, 3) := by decide +kernel
theorem dX11_count_87 : decode cX11_count 87 = .ok (.ireturn, 1) := by decide +kernel
theorem dX11_count_88 : decode cX11_count 88 = .ok (.iconst (-1), 1) := by decide +kernel
theorem dX11_count_89 : decode cX11_count 89 = .ok (.ireturn, 1) := by decide +kernel
theorem sw_4 {x : Int32} (h0 : ¬ x = 0) (h1 : ¬ x = 1) (h2 : ¬ x = 2) (h3 : ¬ x = 3) (h4 : ¬ x = 4) : ∀ n : Nat, n ≤ 4 → ¬ x = nI n := by
  intro n hn
  match n, hn with
  | 0, _ => exact h0
  | 1, _ => exact h1
  | 2, _ => exact h2
  | 3, _ => exact h3
  | 4, _ => exact h4
theorem q4_209 : Cond.methodLink RX11 255 yX1_size ∈ TT := tq4 209 rfl rfl
theorem q4_210 : Cond.instanceMethod yX1_size ∈ TT := tq4 210 rfl rfl
theorem q4_211 : Cond.selects RX1 yX1_size yX1_size ∈ TT := tq4 211 rfl rfl
theorem q4_212 : Cond.code yX1_size cX1_size 1 (some .int) ∈ TT := tq4 212 rfl rfl
theorem lk_RX11_255 : vlk RX11 255 yX1_size cX1_size 1 (some .int) 0 := ⟨List.forall_mem_cons.mpr ⟨q4_209, List.forall_mem_cons.mpr ⟨q4_210, List.forall_mem_cons.mpr ⟨q4_211, List.forall_mem_cons.mpr ⟨q1_11, fun _ h => absurd h List.not_mem_nil⟩⟩⟩⟩, q4_212, by decide, by decide, by decide +kernel⟩
def F_X11_count (s_o : S11) (s_o_text : S8) (s_o_told : S7) (s_o_told_forms : S1) (s_o_told_paper : S4) (s_o_told_stock : S4) (s_o_told_words : S10) (x1 : Int32) : Option (Int32) := (if x1 = 0 then (F_X10_size s_o_told_words).bind fun q_1 => some (q_1) else (if x1 = 1 then (F_X1_size s_o_told_forms).bind fun q_2 => some (q_2) else (if x1 = 2 then (F_X4_size s_o_told_paper).bind fun q_3 => some (q_3) else (if x1 = 3 then (F_X4_size s_o_told_stock).bind fun q_4 => some (q_4) else (if x1 = 4 then (F_X8_length s_o_text).bind fun q_5 => some (q_5) else some ((-1)))))))
def w_X11_count (o o_text o_told o_told_forms o_told_paper o_told_stock o_told_words o_verdict o_trial o_mending o_guess o_choice o_firstImage o_secondImage o_spare : Nat → Nat) (cB cI cJ cZ : ClassId) (s_o : S11) (s_o_text : S8) (s_o_told : S7) (s_o_told_forms : S1) (s_o_told_paper : S4) (s_o_told_stock : S4) (s_o_told_words : S10) (rf_o_told : Value) (rf_o_spare : Value) : va_W := List.flatten [(gX11 o cB cI cJ cZ (o_text 0) (o_verdict 0) (o_trial 0) (o_mending 0) (o_guess 0) (o_choice 0) (o_firstImage 0) (o_secondImage 0) rf_o_told rf_o_spare s_o), (gX8 o_text cB cI cJ cZ s_o_text), (gX7 o_told cB cI cJ cZ (o_told_words 0) (o_told_forms 0) (o_told_paper 0) (o_told_stock 0) s_o_told), (gX1 o_told_forms cB cI cJ cZ s_o_told_forms), (gX4 o_told_paper cB cI cJ cZ s_o_told_paper), (gX4 o_told_stock cB cI cJ cZ s_o_told_stock), (gX10 o_told_words cB cI cJ cZ s_o_told_words)]
abbrev rm_X11_count : Room := { frames := 1, cells := 0, slots := 0, locals := 20 }
set_option maxHeartbeats 4000000 in
set_option maxRecDepth 100000 in
theorem c_X11_count (l : Launch) (D : gG) (cB cI cJ cZ : ClassId) (o o_text o_told o_told_forms o_told_paper o_told_stock o_told_words o_verdict o_trial o_mending o_guess o_choice o_firstImage o_secondImage o_spare : Nat → Nat) (s_o : S11) (s_o_text : S8) (s_o_told : S7) (s_o_told_forms : S1) (s_o_told_paper : S4) (s_o_told_stock : S4) (s_o_told_words : S10) (x1 : Int32) (r : Int32) (hf : F_X11_count s_o s_o_text s_o_told s_o_told_forms s_o_told_paper s_o_told_stock s_o_told_words x1 = some r) : gM l D (tyL cB cI cJ cZ) yX11_count cX11_count 2 (some .int) rm_X11_count [.ref (o 0), .int x1] (w_X11_count o o_text o_told o_told_forms o_told_paper o_told_stock o_told_words o_verdict o_trial o_mending o_guess o_choice o_firstImage o_secondImage o_spare cB cI cJ cZ s_o s_o_text s_o_told s_o_told_forms s_o_told_paper s_o_told_stock s_o_told_words (.ref (o_told 0)) (.ref (o_spare 0))) (some (.int r)) (w_X11_count o o_text o_told o_told_forms o_told_paper o_told_stock o_told_words o_verdict o_trial o_mending o_guess o_choice o_firstImage o_secondImage o_spare cB cI cJ cZ s_o s_o_text s_o_told s_o_told_forms s_o_told_paper s_o_told_stock s_o_told_words (.ref (o_told 0)) (.ref (o_spare 0))) := by
  refine met_of (by decide) (Nat.le_of_ble_eq_true rfl) ?_
  intro p e s m args below meth c A cx hr hA
  show gW p l e rm_X11_count s m args below meth c D A 2 _ 0 0 _ [(0, .ref (o 0)), (1, .int x1)] 0 []
  rw [F_X11_count] at hf
  refine g_iln cx 1 dX11_count_0 rfl ?_
  by_cases hx0 : x1 = 0
  · rw [if_pos hx0] at hf
    refine g_swIn (tgt := 36) cx 0 hx0 (by decide) dX11_count_1 (by decide) rfl rfl ?_
    refine g_aln cx 0 dX11_count_36 rfl ?_
    refine fg_RX11_62 cx 0 rfl rfl dX11_count_37 ?_
    refine fg_RX11_89 cx 3 rfl rfl dX11_count_40 ?_
    refine ob hf (fun q_1 hq_1 hf => ?_)
    refine g_callVGiR cx lk_RX11_211 (c_X10_size l D cB cI cJ cZ o_told_words s_o_told_words q_1 hq_1) rfl [6] rfl rfl (ci := 8) (q1 := 0) rfl rfl rfl (Nat.le_of_ble_eq_true rfl) ⟨rfl, rfl, Nat.le_of_ble_eq_true rfl, Nat.le_of_ble_eq_true rfl⟩ dX11_count_43 ?_
    exact g_iret (ovf := fun (r : Int32) => (some (.int r))) (wf := fun (r : Int32) => (w_X11_count o o_text o_told o_told_forms o_told_paper o_told_stock o_told_words o_verdict o_trial o_mending o_guess o_choice o_firstImage o_secondImage o_spare cB cI cJ cZ s_o s_o_text s_o_told s_o_told_forms s_o_told_paper s_o_told_stock s_o_told_words (.ref (o_told 0)) (.ref (o_spare 0)))) cx hA hr hf rfl rfl dX11_count_46
  rw [if_neg hx0] at hf
  by_cases hx1 : x1 = 1
  · rw [if_pos hx1] at hf
    refine g_swIn (tgt := 47) cx 1 hx1 (by decide) dX11_count_1 (by decide) rfl rfl ?_
    refine g_aln cx 0 dX11_count_47 rfl ?_
    refine fg_RX11_62 cx 0 rfl rfl dX11_count_48 ?_
    refine fg_RX11_110 cx 3 rfl rfl dX11_count_51 ?_
    refine ob hf (fun q_2 hq_2 hf => ?_)
    refine g_callVGiR cx lk_RX11_255 (c_X1_size l D cB cI cJ cZ o_told_forms s_o_told_forms q_2 hq_2) rfl [3] rfl rfl (ci := 1) (q1 := 0) rfl rfl rfl (Nat.le_of_ble_eq_true rfl) ⟨rfl, rfl, Nat.le_of_ble_eq_true rfl, Nat.le_of_ble_eq_true rfl⟩ dX11_count_54 ?_
    exact g_iret (ovf := fun (r : Int32) => (some (.int r))) (wf := fun (r : Int32) => (w_X11_count o o_text o_told o_told_forms o_told_paper o_told_stock o_told_words o_verdict o_trial o_mending o_guess o_choice o_firstImage o_secondImage o_spare cB cI cJ cZ s_o s_o_text s_o_told s_o_told_forms s_o_told_paper s_o_told_stock s_o_told_words (.ref (o_told 0)) (.ref (o_spare 0)))) cx hA hr hf rfl rfl dX11_count_57
  rw [if_neg hx1] at hf
  by_cases hx2 : x1 = 2
  · rw [if_pos hx2] at hf
    refine g_swIn (tgt := 58) cx 2 hx2 (by decide) dX11_count_1 (by decide) rfl rfl ?_
    refine g_aln cx 0 dX11_count_58 rfl ?_
    refine fg_RX11_62 cx 0 rfl rfl dX11_count_59 ?_
    refine fg_RX11_127 cx 3 rfl rfl dX11_count_62 ?_
    refine ob hf (fun q_3 hq_3 hf => ?_)
    refine g_callVGiR cx lk_RX11_136 (c_X4_size l D cB cI cJ cZ o_told_paper s_o_told_paper q_3 hq_3) rfl [4] rfl rfl (ci := 4) (q1 := 0) rfl rfl rfl (Nat.le_of_ble_eq_true rfl) ⟨rfl, rfl, Nat.le_of_ble_eq_true rfl, Nat.le_of_ble_eq_true rfl⟩ dX11_count_65 ?_
    exact g_iret (ovf := fun (r : Int32) => (some (.int r))) (wf := fun (r : Int32) => (w_X11_count o o_text o_told o_told_forms o_told_paper o_told_stock o_told_words o_verdict o_trial o_mending o_guess o_choice o_firstImage o_secondImage o_spare cB cI cJ cZ s_o s_o_text s_o_told s_o_told_forms s_o_told_paper s_o_told_stock s_o_told_words (.ref (o_told 0)) (.ref (o_spare 0)))) cx hA hr hf rfl rfl dX11_count_68
  rw [if_neg hx2] at hf
  by_cases hx3 : x1 = 3
  · rw [if_pos hx3] at hf
    refine g_swIn (tgt := 69) cx 3 hx3 (by decide) dX11_count_1 (by decide) rfl rfl ?_
    refine g_aln cx 0 dX11_count_69 rfl ?_
    refine fg_RX11_62 cx 0 rfl rfl dX11_count_70 ?_
    refine fg_RX11_133 cx 3 rfl rfl dX11_count_73 ?_
    refine ob hf (fun q_4 hq_4 hf => ?_)
    refine g_callVGiR cx lk_RX11_136 (c_X4_size l D cB cI cJ cZ o_told_stock s_o_told_stock q_4 hq_4) rfl [5] rfl rfl (ci := 4) (q1 := 0) rfl rfl rfl (Nat.le_of_ble_eq_true rfl) ⟨rfl, rfl, Nat.le_of_ble_eq_true rfl, Nat.le_of_ble_eq_true rfl⟩ dX11_count_76 ?_
    exact g_iret (ovf := fun (r : Int32) => (some (.int r))) (wf := fun (r : Int32) => (w_X11_count o o_text o_told o_told_forms o_told_paper o_told_stock o_told_words o_verdict o_trial o_mending o_guess o_choice o_firstImage o_secondImage o_spare cB cI cJ cZ s_o s_o_text s_o_told s_o_told_forms s_o_told_paper s_o_told_stock s_o_told_words (.ref (o_told 0)) (.ref (o_spare 0)))) cx hA hr hf rfl rfl dX11_count_79
  rw [if_neg hx3] at hf
  by_cases hx4 : x1 = 4
  · rw [if_pos hx4] at hf
    refine g_swIn (tgt := 80) cx 4 hx4 (by decide) dX11_count_1 (by decide) rfl rfl ?_
    refine g_aln cx 0 dX11_count_80 rfl ?_
    refine fg_RX11_10 cx 0 rfl rfl dX11_count_81 ?_
    refine ob hf (fun q_5 hq_5 hf => ?_)
    refine g_callVGiR cx lk_RX11_69 (c_X8_length l D cB cI cJ cZ o_text s_o_text q_5 hq_5) rfl [1] rfl rfl (ci := 6) (q1 := 0) rfl rfl rfl (Nat.le_of_ble_eq_true rfl) ⟨rfl, rfl, Nat.le_of_ble_eq_true rfl, Nat.le_of_ble_eq_true rfl⟩ dX11_count_84 ?_
    exact g_iret (ovf := fun (r : Int32) => (some (.int r))) (wf := fun (r : Int32) => (w_X11_count o o_text o_told o_told_forms o_told_paper o_told_stock o_told_words o_verdict o_trial o_mending o_guess o_choice o_firstImage o_secondImage o_spare cB cI cJ cZ s_o s_o_text s_o_told s_o_told_forms s_o_told_paper s_o_told_stock s_o_told_words (.ref (o_told 0)) (.ref (o_spare 0)))) cx hA hr hf rfl rfl dX11_count_87
  rw [if_neg hx4] at hf
  refine g_swOut (tgt := 88) cx 4 (sw_4 hx0 hx1 hx2 hx3 hx4) dX11_count_1 rfl ?_
  refine g_ic cx dX11_count_88 k_icm1 ?_
  exact g_iret (ovf := fun (r : Int32) => (some (.int r))) (wf := fun (r : Int32) => (w_X11_count o o_text o_told o_told_forms o_told_paper o_told_stock o_told_words o_verdict o_trial o_mending o_guess o_choice o_firstImage o_secondImage o_spare cB cI cJ cZ s_o s_o_text s_o_told s_o_told_forms s_o_told_paper s_o_told_stock s_o_told_words (.ref (o_told 0)) (.ref (o_spare 0)))) cx hA hr hf rfl rfl dX11_count_89
theorem dX11_trace_0 : decode cX11_trace 0 = .ok (.aload_n 0, 1) := by decide +kernel
theorem dX11_trace_1 : decode cX11_trace 1 = .ok (.getfield 256, 3) := by decide +kernel
theorem dX11_trace_4 : decode cX11_trace 4 = .ok (.lreturn, 1) := by decide +kernel


def F_X11_trace (s_o : S11) : Option (Int64) := some ((s11_traced s_o))
def w_X11_trace (o o_text o_verdict o_trial o_mending o_guess o_choice o_firstImage o_secondImage o_told o_spare : Nat → Nat) (cB cI cJ cZ : ClassId) (s_o : S11) (rf_o_told : Value) (rf_o_spare : Value) : va_W := List.flatten [(gX11 o cB cI cJ cZ (o_text 0) (o_verdict 0) (o_trial 0) (o_mending 0) (o_guess 0) (o_choice 0) (o_firstImage 0) (o_secondImage 0) rf_o_told rf_o_spare s_o)]
abbrev rm_X11_trace : Room := { frames := 0, cells := 0, slots := 0, locals := 0 }
set_option maxHeartbeats 4000000 in
set_option maxRecDepth 100000 in
theorem c_X11_trace (l : Launch) (D : gG) (cB cI cJ cZ : ClassId) (o o_text o_verdict o_trial o_mending o_guess o_choice o_firstImage o_secondImage o_told o_spare : Nat → Nat) (s_o : S11) (r : Int64) (hf : F_X11_trace s_o = some r) : gM l D (tyL cB cI cJ cZ) yX11_trace cX11_trace 1 (some .long) rm_X11_trace [.ref (o 0)] (w_X11_trace o o_text o_verdict o_trial o_mending o_guess o_choice o_firstImage o_secondImage o_told o_spare cB cI cJ cZ s_o (.ref (o_told 0)) (.ref (o_spare 0))) (some (.long r)) (w_X11_trace o o_text o_verdict o_trial o_mending o_guess o_choice o_firstImage o_secondImage o_told o_spare cB cI cJ cZ s_o (.ref (o_told 0)) (.ref (o_spare 0))) := by
  refine met_of (by decide) (Nat.le_of_ble_eq_true rfl) ?_
  intro p e s m args below meth c A cx hr hA
  show gW p l e rm_X11_trace s m args below meth c D A 1 _ 0 0 _ [(0, .ref (o 0))] 0 []
  rw [F_X11_trace] at hf
  refine g_aln cx 0 dX11_trace_0 rfl ?_
  refine fg_RX11_256 cx 0 rfl rfl dX11_trace_1 ?_
  exact g_lret (ovf := fun (r : Int64) => (some (.long r))) (wf := fun (r : Int64) => (w_X11_trace o o_text o_verdict o_trial o_mending o_guess o_choice o_firstImage o_secondImage o_told o_spare cB cI cJ cZ s_o (.ref (o_told 0)) (.ref (o_spare 0)))) cx hA hr hf rfl rfl dX11_trace_4
