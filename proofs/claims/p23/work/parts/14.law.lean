theorem dX11_type_0 : decode cX11_type 0 = .ok (.iload_n 3, 1) := by decide +kernel
theorem dX11_type_1 : decode cX11_type 1 = .ok (.iconst 1, 1) := by decide +kernel
theorem dX11_type_2 : decode cX11_type 2 = .ok (.if_icmp .lt 9, 3) := by decide +kernel
theorem dX11_type_5 : decode cX11_type 5 = .ok (.iload_n 3, 1) := by decide +kernel
theorem dX11_type_6 : decode cX11_type 6 = .ok (.bipush 8, 2) := by decide +kernel
theorem dX11_type_8 : decode cX11_type 8 = .ok (.if_icmp .le 5, 3) := by decide +kernel
theorem dX11_type_11 : decode cX11_type 11 = .ok (.iconst (-1), 1) := by decide +kernel
theorem dX11_type_12 : decode cX11_type 12 = .ok (.ireturn, 1) := by decide +kernel
theorem dX11_type_13 : decode cX11_type 13 = .ok (.aload_n 0, 1) := by decide +kernel
theorem dX11_type_14 : decode cX11_type 14 = .ok (.getfield 10, 3) := by decide +kernel
theorem dX11_type_17 : decode cX11_type 17 = .ok (.invokevirtual 69, 3) := by decide +kernel
theorem dX11_type_20 : decode cX11_type 20 = .ok (.iload_n 3, 1) := by decide +kernel
theorem dX11_type_21 : decode cX11_type 21 = .ok (.iadd, 1) := by decide +kernel
theorem dX11_type_22 : decode cX11_type 22 = .ok (.sipush 500, 3) := by decide +kernel
theorem dX11_type_25 : decode cX11_type 25 = .ok (.if_icmp .le 6, 3) := by decide +kernel
theorem dX11_type_28 : decode cX11_type 28 = .ok (.bipush (-3), 2) := by decide +kernel
theorem dX11_type_30 : decode cX11_type 30 = .ok (.ireturn, 1) := by decide +kernel
theorem dX11_type_31 : decode cX11_type 31 = .ok (.iload_n 3, 1) := by decide +kernel
theorem dX11_type_32 : decode cX11_type 32 = .ok (.iconst 1, 1) := by decide +kernel
theorem dX11_type_33 : decode cX11_type 33 = .ok (.isub, 1) := by decide +kernel
theorem dX11_type_34 : decode cX11_type 34 = .ok (.istore 4, 2) := by decide +kernel
theorem dX11_type_36 : decode cX11_type 36 = .ok (.iload 4, 2) := by decide +kernel
theorem dX11_type_38 : decode cX11_type 38 = .ok (.ifCond .lt 28, 3) := by decide +kernel
theorem dX11_type_41 : decode cX11_type 41 = .ok (.aload_n 0, 1) := by decide +kernel
theorem dX11_type_42 : decode cX11_type 42 = .ok (.getfield 10, 3) := by decide +kernel
theorem dX11_type_45 : decode cX11_type 45 = .ok (.lload_n 1, 1) := by decide +kernel
theorem dX11_type_46 : decode cX11_type 46 = .ok (.bipush 8, 2) := by decide +kernel
theorem dX11_type_48 : decode cX11_type 48 = .ok (.iload 4, 2) := by decide +kernel
theorem dX11_type_50 : decode cX11_type 50 = .ok (.imul, 1) := by decide +kernel
theorem dX11_type_51 : decode cX11_type 51 = .ok (.lushr, 1) := by decide +kernel
theorem dX11_type_52 : decode cX11_type 52 = .ok (.l2i, 1) := by decide +kernel
theorem dX11_type_53 : decode cX11_type 53 = .ok (.sipush 255, 3) := by decide +kernel
theorem dX11_type_56 : decode cX11_type 56 = .ok (.iand, 1) := by decide +kernel
theorem dX11_type_57 : decode cX11_type 57 = .ok (.invokevirtual 73, 3) := by decide +kernel
theorem dX11_type_60 : decode cX11_type 60 = .ok (.iinc 4 (-1), 3) := by decide +kernel
theorem dX11_type_63 : decode cX11_type 63 = .ok (.goto (-27), 3) := by decide +kernel
theorem dX11_type_66 : decode cX11_type 66 = .ok (.aload_n 0, 1) := by decide +kernel
theorem dX11_type_67 : decode cX11_type 67 = .ok (.getfield 10, 3) := by decide +kernel
theorem dX11_type_70 : decode cX11_type 70 = .ok (.invokevirtual 69, 3) := by decide +kernel
theorem dX11_type_73 : decode cX11_type 73 = .ok (.ireturn, 1) := by decide +kernel
theorem k_bpm3 : (Int8.ofInt (-3)).toInt32 = (-3) := by decide
theorem q1_232 : Cond.fieldLink RX11 10 "RhymeLaw" "text" "LRhymeLaw$Text;" ∈ TT := tq1 232 rfl rfl
theorem q2_33 : Cond.methodLink RX11 69 yX8_length ∈ TT := tq2 33 rfl rfl
theorem q2_37 : Cond.methodLink RX11 73 yX8_append ∈ TT := tq2 37 rfl rfl
theorem q2_38 : Cond.instanceMethod yX8_append ∈ TT := tq2 38 rfl rfl
theorem q2_39 : Cond.selects RX8 yX8_append yX8_append ∈ TT := tq2 39 rfl rfl
theorem q2_40 : Cond.code yX8_append cX8_append 2 none ∈ TT := tq2 40 rfl rfl
theorem fg_RX11_10 {p : Program} {l : Launch} {e : Env} {R : Room} {s : State} {m : MethodId} {args : Array Value} {below : List Frame} {meth : Method} {c : Code} {D : gG} {tys : List (ClassId × FieldType)} {A : Nat → Prop} {nL : Nat} {Q : State → Prop} {cells slots : Nat} {cc : ByteArray} {ws : va_W} {L : List (Nat × Value)} {pc : Nat} {stk : List Value} (cx : gX p s m args meth c cc nL RX11 D tys A) {a : Nat} {fs : List Value} {v : Value} (q0 : Nat) (he : ws[q0]? = some (a, .inr (9, fs))) (hv : fs[0]? = some v) (hd : decode cc pc = .ok (.getfield 10, 3)) (kk : gW p l e R s m args below meth c D A nL Q cells slots ws L (pc + 3) (v :: stk)) : gW p l e R s m args below meth c D A nL Q cells slots ws L pc (.ref a :: stk) :=
  g_get cx (C := RX11) (T := TX11) (N := 12) inT11 rfl 0 (Nat.le_of_ble_eq_true rfl) q1_232 rfl q0 he hv hd kk
theorem lk_RX11_69 : vlk RX11 69 yX8_length cX8_length 1 (some .int) 0 := ⟨List.forall_mem_cons.mpr ⟨q2_33, List.forall_mem_cons.mpr ⟨q2_34, List.forall_mem_cons.mpr ⟨q2_35, List.forall_mem_cons.mpr ⟨q1_2, fun _ h => absurd h List.not_mem_nil⟩⟩⟩⟩, q2_36, by decide, by decide, by decide +kernel⟩
theorem lk_RX11_73 : vlk RX11 73 yX8_append cX8_append 2 none 1 := ⟨List.forall_mem_cons.mpr ⟨q2_37, List.forall_mem_cons.mpr ⟨q2_38, List.forall_mem_cons.mpr ⟨q2_39, List.forall_mem_cons.mpr ⟨q1_2, fun _ h => absurd h List.not_mem_nil⟩⟩⟩⟩, q2_40, by decide, by decide, by decide +kernel⟩
def F_X11_type_b36 (s_o : S11) (x1 : Int64) (x3 : Int32) : Nat → Int32 → S8 → Option (Int32 × S8)
  | 0, _, _ => none
  | n + 1, v4, zs_o_text => (if v4 < 0 then (F_X8_length zs_o_text).bind fun q_1 => some (q_1, zs_o_text) else (F_X8_append zs_o_text ((Int64.toInt32 (x1.toUInt64 >>> ((8 * v4).toInt64.toUInt64 &&& Int64.toUInt64 63)).toInt64) &&& 255)).bind fun q_2 => nm (v4 - 1) fun v4_3 => (F_X11_type_b36 s_o x1 x3 n) v4_3 q_2)
def F_X11_type (s_o : S11) (s_o_text : S8) (x1 : Int64) (x3 : Int32) : Option (Int32 × S8) := (if x3 < 1 then some ((-1), s_o_text) else (if x3 ≤ 8 then (F_X8_length s_o_text).bind fun q_4 => (if (q_4 + x3) ≤ 500 then nm (x3 - 1) fun v4_5 => F_X11_type_b36 s_o x1 x3 fu v4_5 s_o_text else some ((-3), s_o_text)) else some ((-1), s_o_text)))
def w_X11_type (o o_text o_verdict o_trial o_mending o_guess o_choice o_firstImage o_secondImage o_told o_spare : Nat → Nat) (cB cI cJ cZ : ClassId) (s_o : S11) (s_o_text : S8) (rf_o_told : Value) (rf_o_spare : Value) : va_W := List.flatten [(gX11 o cB cI cJ cZ (o_text 0) (o_verdict 0) (o_trial 0) (o_mending 0) (o_guess 0) (o_choice 0) (o_firstImage 0) (o_secondImage 0) rf_o_told rf_o_spare s_o), (gX8 o_text cB cI cJ cZ s_o_text)]
abbrev rm_X11_type : Room := { frames := 1, cells := 0, slots := 0, locals := 21 }
set_option maxHeartbeats 4000000 in
set_option maxRecDepth 100000 in
theorem c_X11_type (l : Launch) (D : gG) (cB cI cJ cZ : ClassId) (o o_text o_verdict o_trial o_mending o_guess o_choice o_firstImage o_secondImage o_told o_spare : Nat → Nat) (s_o : S11) (s_o_text : S8) (x1 : Int64) (x3 : Int32) (r : Int32 × S8) (hf : F_X11_type s_o s_o_text x1 x3 = some r) : gM l D (tyL cB cI cJ cZ) yX11_type cX11_type 5 (some .int) rm_X11_type [.ref (o 0), .long x1, .int x3] (w_X11_type o o_text o_verdict o_trial o_mending o_guess o_choice o_firstImage o_secondImage o_told o_spare cB cI cJ cZ s_o s_o_text (.ref (o_told 0)) (.ref (o_spare 0))) (some (.int r.1)) (w_X11_type o o_text o_verdict o_trial o_mending o_guess o_choice o_firstImage o_secondImage o_told o_spare cB cI cJ cZ s_o r.2 (.ref (o_told 0)) (.ref (o_spare 0))) := by
  refine met_of (by decide) (Nat.le_of_ble_eq_true rfl) ?_
  intro p e s m args below meth c A cx hr hA
  show gW p l e rm_X11_type s m args below meth c D A 5 _ 0 0 _ [(0, .ref (o 0)), (1, .long x1), (3, .int x3)] 0 []
  have h36 : ∀ (n : Nat) (v4 : Int32) (zs_o_text : S8), F_X11_type_b36 s_o x1 x3 n v4 zs_o_text = some r → gW p l e rm_X11_type s m args below meth c D A 5 (MQ below (QM D (tyL cB cI cJ cZ) (some (.int r.1)) (w_X11_type o o_text o_verdict o_trial o_mending o_guess o_choice o_firstImage o_secondImage o_told o_spare cB cI cJ cZ s_o s_o_text (.ref (o_told 0)) (.ref (o_spare 0))) (w_X11_type o o_text o_verdict o_trial o_mending o_guess o_choice o_firstImage o_secondImage o_told o_spare cB cI cJ cZ s_o r.2 (.ref (o_told 0)) (.ref (o_spare 0))) s.heap.size) args s 0 0 A) 0 0 (w_X11_type o o_text o_verdict o_trial o_mending o_guess o_choice o_firstImage o_secondImage o_told o_spare cB cI cJ cZ s_o zs_o_text (.ref (o_told 0)) (.ref (o_spare 0))) [(0, .ref (o 0)), (1, .long x1), (4, .int v4)] 36 [] := by
    intro n
    induction n with
    | zero => intro v4 zs_o_text hf; rw [F_X11_type_b36] at hf; cases hf
    | succ n ih =>
      intro v4 zs_o_text hf
      rw [F_X11_type_b36] at hf
      refine g_il cx 2 dX11_type_36 rfl ?_
      refine g_if_lt (tgt := 66) cx hf dX11_type_38 rfl (fun hf => ?_) (fun hf => ?_)
      · refine g_aln cx 0 dX11_type_66 rfl ?_
        refine fg_RX11_10 cx 0 rfl rfl dX11_type_67 ?_
        refine ob hf (fun q_1 hq_1 hf => ?_)
        refine g_callVGiR cx lk_RX11_69 (c_X8_length l D cB cI cJ cZ o_text zs_o_text q_1 hq_1) rfl [1] rfl rfl (ci := 6) (q1 := 0) rfl rfl rfl (Nat.le_of_ble_eq_true rfl) ⟨rfl, rfl, Nat.le_of_ble_eq_true rfl, Nat.le_of_ble_eq_true rfl⟩ dX11_type_70 ?_
        exact g_iret (ovf := fun (r : Int32 × S8) => (some (.int r.1))) (wf := fun (r : Int32 × S8) => (w_X11_type o o_text o_verdict o_trial o_mending o_guess o_choice o_firstImage o_secondImage o_told o_spare cB cI cJ cZ s_o r.2 (.ref (o_told 0)) (.ref (o_spare 0)))) cx hA hr hf rfl rfl dX11_type_73
      · refine g_aln cx 0 dX11_type_41 rfl ?_
        refine fg_RX11_10 cx 0 rfl rfl dX11_type_42 ?_
        refine g_lln cx 1 dX11_type_45 rfl ?_
        refine g_bp cx dX11_type_46 k_bp8 ?_
        refine g_il cx 2 dX11_type_48 rfl ?_
        refine g_imul cx dX11_type_50 ?_
        refine g_lushr cx dX11_type_51 ?_
        refine g_l2i cx dX11_type_52 ?_
        refine g_sp cx dX11_type_53 k_sp255 ?_
        refine g_iand cx dX11_type_56 ?_
        refine ob hf (fun q_2 hq_2 hf => ?_)
        refine g_callVGv (gs' := [(gX11 o cB cI cJ cZ (o_text 0) (o_verdict 0) (o_trial 0) (o_mending 0) (o_guess 0) (o_choice 0) (o_firstImage 0) (o_secondImage 0) (.ref (o_told 0)) (.ref (o_spare 0)) s_o), (gX8 o_text cB cI cJ cZ q_2)]) cx lk_RX11_73 (c_X8_append l D cB cI cJ cZ o_text zs_o_text ((Int64.toInt32 (x1.toUInt64 >>> ((8 * v4).toInt64.toUInt64 &&& Int64.toUInt64 63)).toInt64) &&& 255) q_2 hq_2) rfl [1] rfl rfl rfl rfl (ci := 6) (q1 := 0) rfl rfl rfl (Nat.le_of_ble_eq_true rfl) ⟨rfl, rfl, Nat.le_of_ble_eq_true rfl, Nat.le_of_ble_eq_true rfl⟩ dX11_type_57 ?_
        refine g_inc cx (L2 := fun v4_3 => [(4, .int v4_3), (0, .ref (o 0)), (1, .long x1)]) 2 hf dX11_type_60 rfl (k_incm1 _) (Nat.le_of_ble_eq_true rfl) (fun _ => rfl) (fun v4_3 hf => ?_)
        refine g_goto (tgt := 36) cx dX11_type_63 rfl ?_
        refine g_sub [1, 2, 0] rfl ?_
        exact ih _ _ hf
  rw [F_X11_type] at hf
  refine g_iln cx 2 dX11_type_0 rfl ?_
  refine g_ic cx dX11_type_1 k_ic1 ?_
  refine g_ic_lt (tgt := 11) cx hf dX11_type_2 rfl (fun hf => ?_) (fun hf => ?_)
  · refine g_ic cx dX11_type_11 k_icm1 ?_
    exact g_iret (ovf := fun (r : Int32 × S8) => (some (.int r.1))) (wf := fun (r : Int32 × S8) => (w_X11_type o o_text o_verdict o_trial o_mending o_guess o_choice o_firstImage o_secondImage o_told o_spare cB cI cJ cZ s_o r.2 (.ref (o_told 0)) (.ref (o_spare 0)))) cx hA hr hf rfl rfl dX11_type_12
  · refine g_iln cx 2 dX11_type_5 rfl ?_
    refine g_bp cx dX11_type_6 k_bp8 ?_
    refine g_ic_le (tgt := 13) cx hf dX11_type_8 rfl (fun hf => ?_) (fun hf => ?_)
    · refine g_aln cx 0 dX11_type_13 rfl ?_
      refine fg_RX11_10 cx 0 rfl rfl dX11_type_14 ?_
      refine ob hf (fun q_4 hq_4 hf => ?_)
      refine g_callVGiR cx lk_RX11_69 (c_X8_length l D cB cI cJ cZ o_text s_o_text q_4 hq_4) rfl [1] rfl rfl (ci := 6) (q1 := 0) rfl rfl rfl (Nat.le_of_ble_eq_true rfl) ⟨rfl, rfl, Nat.le_of_ble_eq_true rfl, Nat.le_of_ble_eq_true rfl⟩ dX11_type_17 ?_
      refine g_iln cx 2 dX11_type_20 rfl ?_
      refine g_iadd cx dX11_type_21 ?_
      refine g_sp cx dX11_type_22 k_sp500 ?_
      refine g_ic_le (tgt := 31) cx hf dX11_type_25 rfl (fun hf => ?_) (fun hf => ?_)
      · refine g_iln cx 2 dX11_type_31 rfl ?_
        refine g_ic cx dX11_type_32 k_ic1 ?_
        refine g_isub cx dX11_type_33 ?_
        refine g_is cx (L2 := fun v4_5 => [(4, .int v4_5), (0, .ref (o 0)), (1, .long x1), (3, .int x3)]) hf dX11_type_34 (Nat.le_of_ble_eq_true rfl) (fun _ => rfl) (fun v4_5 hf => ?_)
        refine g_sub [1, 2, 0] rfl ?_
        exact h36 fu _ _ hf
      · refine g_bp cx dX11_type_28 k_bpm3 ?_
        exact g_iret (ovf := fun (r : Int32 × S8) => (some (.int r.1))) (wf := fun (r : Int32 × S8) => (w_X11_type o o_text o_verdict o_trial o_mending o_guess o_choice o_firstImage o_secondImage o_told o_spare cB cI cJ cZ s_o r.2 (.ref (o_told 0)) (.ref (o_spare 0)))) cx hA hr hf rfl rfl dX11_type_30
    · refine g_ic cx dX11_type_11 k_icm1 ?_
      exact g_iret (ovf := fun (r : Int32 × S8) => (some (.int r.1))) (wf := fun (r : Int32 × S8) => (w_X11_type o o_text o_verdict o_trial o_mending o_guess o_choice o_firstImage o_secondImage o_told o_spare cB cI cJ cZ s_o r.2 (.ref (o_told 0)) (.ref (o_spare 0)))) cx hA hr hf rfl rfl dX11_type_12
theorem dX11_clear_0 : decode cX11_clear 0 = .ok (.aload_n 0, 1) := by decide +kernel
theorem dX11_clear_1 : decode cX11_clear 1 = .ok (.getfield 10, 3) := by decide +kernel
theorem dX11_clear_4 : decode cX11_clear 4 = .ok (.invokevirtual 69, 3) := by decide +kernel
theorem dX11_clear_7 : decode cX11_clear 7 = .ok (.istore_n 1, 1) := by decide +kernel
theorem dX11_clear_8 : decode cX11_clear 8 = .ok (.aload_n 0, 1) := by decide +kernel
theorem dX11_clear_9 : decode cX11_clear 9 = .ok (.getfield 10, 3) := by decide +kernel
theorem dX11_clear_12 : decode cX11_clear 12 = .ok (.invokevirtual 76, 3) := by decide +kernel
theorem dX11_clear_15 : decode cX11_clear 15 = .ok (.iload_n 1, 1) := by decide +kernel
theorem dX11_clear_16 : decode cX11_clear 16 = .ok (.ireturn, 1) := by decide +kernel
theorem q2_45 : Cond.methodLink RX11 76 yX8_wipe ∈ TT := tq2 45 rfl rfl
theorem q2_46 : Cond.instanceMethod yX8_wipe ∈ TT := tq2 46 rfl rfl
theorem q2_47 : Cond.selects RX8 yX8_wipe yX8_wipe ∈ TT := tq2 47 rfl rfl
theorem q2_48 : Cond.code yX8_wipe cX8_wipe 1 none ∈ TT := tq2 48 rfl rfl
theorem lk_RX11_76 : vlk RX11 76 yX8_wipe cX8_wipe 1 none 0 := ⟨List.forall_mem_cons.mpr ⟨q2_45, List.forall_mem_cons.mpr ⟨q2_46, List.forall_mem_cons.mpr ⟨q2_47, List.forall_mem_cons.mpr ⟨q1_2, fun _ h => absurd h List.not_mem_nil⟩⟩⟩⟩, q2_48, by decide, by decide, by decide +kernel⟩
def F_X11_clear (s_o : S11) (s_o_text : S8) : Option (Int32 × S8) := (F_X8_length s_o_text).bind fun q_1 => nm q_1 fun v1_2 => (F_X8_wipe s_o_text).bind fun q_3 => some (v1_2, q_3)
def w_X11_clear (o o_text o_verdict o_trial o_mending o_guess o_choice o_firstImage o_secondImage o_told o_spare : Nat → Nat) (cB cI cJ cZ : ClassId) (s_o : S11) (s_o_text : S8) (rf_o_told : Value) (rf_o_spare : Value) : va_W := List.flatten [(gX11 o cB cI cJ cZ (o_text 0) (o_verdict 0) (o_trial 0) (o_mending 0) (o_guess 0) (o_choice 0) (o_firstImage 0) (o_secondImage 0) rf_o_told rf_o_spare s_o), (gX8 o_text cB cI cJ cZ s_o_text)]
abbrev rm_X11_clear : Room := { frames := 1, cells := 0, slots := 0, locals := 20 }
set_option maxHeartbeats 4000000 in
set_option maxRecDepth 100000 in
theorem c_X11_clear (l : Launch) (D : gG) (cB cI cJ cZ : ClassId) (o o_text o_verdict o_trial o_mending o_guess o_choice o_firstImage o_secondImage o_told o_spare : Nat → Nat) (s_o : S11) (s_o_text : S8) (r : Int32 × S8) (hf : F_X11_clear s_o s_o_text = some r) : gM l D (tyL cB cI cJ cZ) yX11_clear cX11_clear 2 (some .int) rm_X11_clear [.ref (o 0)] (w_X11_clear o o_text o_verdict o_trial o_mending o_guess o_choice o_firstImage o_secondImage o_told o_spare cB cI cJ cZ s_o s_o_text (.ref (o_told 0)) (.ref (o_spare 0))) (some (.int r.1)) (w_X11_clear o o_text o_verdict o_trial o_mending o_guess o_choice o_firstImage o_secondImage o_told o_spare cB cI cJ cZ s_o r.2 (.ref (o_told 0)) (.ref (o_spare 0))) := by
  refine met_of (by decide) (Nat.le_of_ble_eq_true rfl) ?_
  intro p e s m args below meth c A cx hr hA
  show gW p l e rm_X11_clear s m args below meth c D A 2 _ 0 0 _ [(0, .ref (o 0))] 0 []
  rw [F_X11_clear] at hf
  refine g_aln cx 0 dX11_clear_0 rfl ?_
  refine fg_RX11_10 cx 0 rfl rfl dX11_clear_1 ?_
  refine ob hf (fun q_1 hq_1 hf => ?_)
  refine g_callVGiR cx lk_RX11_69 (c_X8_length l D cB cI cJ cZ o_text s_o_text q_1 hq_1) rfl [1] rfl rfl (ci := 6) (q1 := 0) rfl rfl rfl (Nat.le_of_ble_eq_true rfl) ⟨rfl, rfl, Nat.le_of_ble_eq_true rfl, Nat.le_of_ble_eq_true rfl⟩ dX11_clear_4 ?_
  refine g_isn cx (L2 := fun v1_2 => [(1, .int v1_2), (0, .ref (o 0))]) hf dX11_clear_7 (Nat.le_of_ble_eq_true rfl) (fun _ => rfl) (fun v1_2 hf => ?_)
  refine g_aln cx 1 dX11_clear_8 rfl ?_
  refine fg_RX11_10 cx 0 rfl rfl dX11_clear_9 ?_
  refine ob hf (fun q_3 hq_3 hf => ?_)
  refine g_callVGv (gs' := [(gX11 o cB cI cJ cZ (o_text 0) (o_verdict 0) (o_trial 0) (o_mending 0) (o_guess 0) (o_choice 0) (o_firstImage 0) (o_secondImage 0) (.ref (o_told 0)) (.ref (o_spare 0)) s_o), (gX8 o_text cB cI cJ cZ q_3)]) cx lk_RX11_76 (c_X8_wipe l D cB cI cJ cZ o_text s_o_text q_3 hq_3) rfl [1] rfl rfl rfl rfl (ci := 6) (q1 := 0) rfl rfl rfl (Nat.le_of_ble_eq_true rfl) ⟨rfl, rfl, Nat.le_of_ble_eq_true rfl, Nat.le_of_ble_eq_true rfl⟩ dX11_clear_12 ?_
  refine g_iln cx 0 dX11_clear_15 rfl ?_
  exact g_iret (ovf := fun (r : Int32 × S8) => (some (.int r.1))) (wf := fun (r : Int32 × S8) => (w_X11_clear o o_text o_verdict o_trial o_mending o_guess o_choice o_firstImage o_secondImage o_told o_spare cB cI cJ cZ s_o r.2 (.ref (o_told 0)) (.ref (o_spare 0)))) cx hA hr hf rfl rfl dX11_clear_16
theorem dX11_read_0 : decode cX11_read 0 = .ok (.aload_n 0, 1) := by decide +kernel
theorem dX11_read_1 : decode cX11_read 1 = .ok (.getfield 10, 3) := by decide +kernel
theorem dX11_read_4 : decode cX11_read 4 = .ok (.aload_n 0, 1) := by decide +kernel
theorem dX11_read_5 : decode cX11_read 5 = .ok (.getfield 66, 3) := by decide +kernel
theorem dX11_read_8 : decode cX11_read 8 = .ok (.invokestatic 79, 3) := by decide +kernel
theorem dX11_read_11 : decode cX11_read 11 = .ok (.istore_n 1, 1) := by decide +kernel
theorem dX11_read_12 : decode cX11_read 12 = .ok (.iload_n 1, 1) := by decide +kernel
theorem dX11_read_13 : decode cX11_read 13 = .ok (.ifCond .ge 5, 3) := by decide +kernel
theorem dX11_read_16 : decode cX11_read 16 = .ok (.iload_n 1, 1) := by decide +kernel
theorem dX11_read_17 : decode cX11_read 17 = .ok (.ireturn, 1) := by decide +kernel
theorem dX11_read_18 : decode cX11_read 18 = .ok (.aload_n 0, 1) := by decide +kernel
theorem dX11_read_19 : decode cX11_read 19 = .ok (.getfield 62, 3) := by decide +kernel
theorem dX11_read_22 : decode cX11_read 22 = .ok (.astore_n 2, 1) := by decide +kernel
theorem dX11_read_23 : decode cX11_read 23 = .ok (.aload_n 0, 1) := by decide +kernel
theorem dX11_read_24 : decode cX11_read 24 = .ok (.aload_n 0, 1) := by decide +kernel
theorem dX11_read_25 : decode cX11_read 25 = .ok (.getfield 66, 3) := by decide +kernel
theorem dX11_read_28 : decode cX11_read 28 = .ok (.putfield 62, 3) := by decide +kernel
theorem dX11_read_31 : decode cX11_read 31 = .ok (.aload_n 0, 1) := by decide +kernel
theorem dX11_read_32 : decode cX11_read 32 = .ok (.aload_n 2, 1) := by decide +kernel
theorem dX11_read_33 : decode cX11_read 33 = .ok (.putfield 66, 3) := by decide +kernel
theorem dX11_read_36 : decode cX11_read 36 = .ok (.aload_n 0, 1) := by decide +kernel
theorem dX11_read_37 : decode cX11_read 37 = .ok (.getfield 10, 3) := by decide +kernel
theorem dX11_read_40 : decode cX11_read 40 = .ok (.invokevirtual 76, 3) := by decide +kernel
theorem dX11_read_43 : decode cX11_read 43 = .ok (.aload_n 0, 1) := by decide +kernel
theorem dX11_read_44 : decode cX11_read 44 = .ok (.iconst 0, 1) := by decide +kernel
theorem dX11_read_45 : decode cX11_read 45 = .ok (.putfield 85, 3) := by decide +kernel
theorem dX11_read_48 : decode cX11_read 48 = .ok (.iload_n 1, 1) := by decide +kernel
theorem dX11_read_49 : decode cX11_read 49 = .ok (.ireturn, 1) := by decide +kernel
theorem q2_0 : Cond.fieldLink RX11 62 "RhymeLaw" "told" "LRhymeLaw$Tale;" ∈ TT := tq2 0 rfl rfl
theorem q2_1 : Cond.fieldLink RX11 66 "RhymeLaw" "spare" "LRhymeLaw$Tale;" ∈ TT := tq2 1 rfl rfl
theorem q2_2 : Cond.fieldLink RX11 85 "RhymeLaw" "kept" "I" ∈ TT := tq2 2 rfl rfl
theorem q2_53 : Cond.methodLink RX11 79 yX5_tell ∈ TT := tq2 53 rfl rfl
theorem q2_54 : Cond.static yX5_tell ∈ TT := tq2 54 rfl rfl
theorem q2_55 : Cond.code yX5_tell cX5_tell 3 (some .int) ∈ TT := tq2 55 rfl rfl
theorem fg_RX11_66 {p : Program} {l : Launch} {e : Env} {R : Room} {s : State} {m : MethodId} {args : Array Value} {below : List Frame} {meth : Method} {c : Code} {D : gG} {tys : List (ClassId × FieldType)} {A : Nat → Prop} {nL : Nat} {Q : State → Prop} {cells slots : Nat} {cc : ByteArray} {ws : va_W} {L : List (Nat × Value)} {pc : Nat} {stk : List Value} (cx : gX p s m args meth c cc nL RX11 D tys A) {a : Nat} {fs : List Value} {v : Value} (q0 : Nat) (he : ws[q0]? = some (a, .inr (9, fs))) (hv : fs[9]? = some v) (hd : decode cc pc = .ok (.getfield 66, 3)) (kk : gW p l e R s m args below meth c D A nL Q cells slots ws L (pc + 3) (v :: stk)) : gW p l e R s m args below meth c D A nL Q cells slots ws L pc (.ref a :: stk) :=
  g_get cx (C := RX11) (T := TX11) (N := 12) inT11 rfl 9 (Nat.le_of_ble_eq_true rfl) q2_1 rfl q0 he hv hd kk
theorem lk_RX11_79 : slk RX11 79 yX5_tell cX5_tell 3 (some .int) 2 := ⟨List.forall_mem_cons.mpr ⟨q2_53, List.forall_mem_cons.mpr ⟨q2_54, List.forall_mem_cons.mpr ⟨q1_13, fun _ h => absurd h List.not_mem_nil⟩⟩⟩, q2_55, by decide, by decide, by decide +kernel⟩
theorem fg_RX11_62 {p : Program} {l : Launch} {e : Env} {R : Room} {s : State} {m : MethodId} {args : Array Value} {below : List Frame} {meth : Method} {c : Code} {D : gG} {tys : List (ClassId × FieldType)} {A : Nat → Prop} {nL : Nat} {Q : State → Prop} {cells slots : Nat} {cc : ByteArray} {ws : va_W} {L : List (Nat × Value)} {pc : Nat} {stk : List Value} (cx : gX p s m args meth c cc nL RX11 D tys A) {a : Nat} {fs : List Value} {v : Value} (q0 : Nat) (he : ws[q0]? = some (a, .inr (9, fs))) (hv : fs[8]? = some v) (hd : decode cc pc = .ok (.getfield 62, 3)) (kk : gW p l e R s m args below meth c D A nL Q cells slots ws L (pc + 3) (v :: stk)) : gW p l e R s m args below meth c D A nL Q cells slots ws L pc (.ref a :: stk) :=
  g_get cx (C := RX11) (T := TX11) (N := 12) inT11 rfl 8 (Nat.le_of_ble_eq_true rfl) q2_0 rfl q0 he hv hd kk
theorem fp_RX11_62 {p : Program} {l : Launch} {e : Env} {R : Room} {s : State} {m : MethodId} {args : Array Value} {below : List Frame} {meth : Method} {c : Code} {D : gG} {tys : List (ClassId × FieldType)} {A : Nat → Prop} {nL : Nat} {Q : State → Prop} {cells slots : Nat} {cc : ByteArray} {ws : va_W} {L : List (Nat × Value)} {pc : Nat} {stk : List Value} (cx : gX p s m args meth c cc nL RX11 D tys A) {a : Nat} {fs : List Value} {x : Nat} (q0 : Nat) (he : ws[q0]? = some (a, .inr (9, fs))) (hl : 8 < fs.length) {ws' : va_W} (hw : ws.set q0 (a, .inr (9, fs.set 8 (.ref x))) = ws') (hd : decode cc pc = .ok (.putfield 62, 3)) (kk : gW p l e R s m args below meth c D A nL Q cells slots ws' L (pc + 3) stk) : gW p l e R s m args below meth c D A nL Q cells slots ws L pc (.ref x :: .ref a :: stk) :=
  g_put cx (C := RX11) (T := TX11) (N := 12) (ty0 := tyX11) (ty := (.object "RhymeLaw$Tale")) inT11 tyX11_ok nmX11 rfl 8 (Nat.le_of_ble_eq_true rfl) q2_0 rfl rfl rfl rfl rfl q0 he hl hw hd kk
theorem fp_RX11_66 {p : Program} {l : Launch} {e : Env} {R : Room} {s : State} {m : MethodId} {args : Array Value} {below : List Frame} {meth : Method} {c : Code} {D : gG} {tys : List (ClassId × FieldType)} {A : Nat → Prop} {nL : Nat} {Q : State → Prop} {cells slots : Nat} {cc : ByteArray} {ws : va_W} {L : List (Nat × Value)} {pc : Nat} {stk : List Value} (cx : gX p s m args meth c cc nL RX11 D tys A) {a : Nat} {fs : List Value} {x : Nat} (q0 : Nat) (he : ws[q0]? = some (a, .inr (9, fs))) (hl : 9 < fs.length) {ws' : va_W} (hw : ws.set q0 (a, .inr (9, fs.set 9 (.ref x))) = ws') (hd : decode cc pc = .ok (.putfield 66, 3)) (kk : gW p l e R s m args below meth c D A nL Q cells slots ws' L (pc + 3) stk) : gW p l e R s m args below meth c D A nL Q cells slots ws L pc (.ref x :: .ref a :: stk) :=
  g_put cx (C := RX11) (T := TX11) (N := 12) (ty0 := tyX11) (ty := (.object "RhymeLaw$Tale")) inT11 tyX11_ok nmX11 rfl 9 (Nat.le_of_ble_eq_true rfl) q2_1 rfl rfl rfl rfl rfl q0 he hl hw hd kk
theorem fp_RX11_85 {p : Program} {l : Launch} {e : Env} {R : Room} {s : State} {m : MethodId} {args : Array Value} {below : List Frame} {meth : Method} {c : Code} {D : gG} {tys : List (ClassId × FieldType)} {A : Nat → Prop} {nL : Nat} {Q : State → Prop} {cells slots : Nat} {cc : ByteArray} {ws : va_W} {L : List (Nat × Value)} {pc : Nat} {stk : List Value} (cx : gX p s m args meth c cc nL RX11 D tys A) {a : Nat} {fs : List Value} {x : Int32} (q0 : Nat) (he : ws[q0]? = some (a, .inr (9, fs))) (hl : 10 < fs.length) {ws' : va_W} (hw : ws.set q0 (a, .inr (9, fs.set 10 (.int x))) = ws') (hd : decode cc pc = .ok (.putfield 85, 3)) (kk : gW p l e R s m args below meth c D A nL Q cells slots ws' L (pc + 3) stk) : gW p l e R s m args below meth c D A nL Q cells slots ws L pc (.int x :: .ref a :: stk) :=
  g_put cx (C := RX11) (T := TX11) (N := 12) (ty0 := tyX11) (ty := .int) inT11 tyX11_ok nmX11 rfl 10 (Nat.le_of_ble_eq_true rfl) q2_2 rfl rfl rfl rfl rfl q0 he hl hw hd kk
def F_X11_read_0 (s_o : S11) (s_o_spare : S7) (s_o_text : S8) (s_o_spare_forms : S1) (s_o_spare_paper : S4) (s_o_spare_stock : S4) (s_o_spare_words : S10) : Option (Int32 × S11 × S7 × S8 × S1 × S4 × S4 × S10) := (F_X5_tell s_o_text s_o_spare s_o_spare_forms s_o_spare_paper s_o_spare_stock s_o_spare_words).bind fun q_1 => nm q_1.1 fun v1_2 => (if 0 ≤ v1_2 then (F_X8_wipe q_1.2.1).bind fun q_3 => nm (u11_kept s_o 0) fun s_o_4 => none else some (v1_2, s_o, q_1.2.2.1, q_1.2.1, q_1.2.2.2.1, q_1.2.2.2.2.1, q_1.2.2.2.2.2.1, q_1.2.2.2.2.2.2))
def w_X11_read_0 (o o_spare o_text o_spare_forms o_spare_paper o_spare_stock o_spare_words o_verdict o_trial o_mending o_guess o_choice o_firstImage o_secondImage o_told : Nat → Nat) (cB cI cJ cZ : ClassId) (s_o : S11) (s_o_spare : S7) (s_o_text : S8) (s_o_spare_forms : S1) (s_o_spare_paper : S4) (s_o_spare_stock : S4) (s_o_spare_words : S10) (rf_o_told : Value) (rf_o_spare : Value) : va_W := List.flatten [(gX11 o cB cI cJ cZ (o_text 0) (o_verdict 0) (o_trial 0) (o_mending 0) (o_guess 0) (o_choice 0) (o_firstImage 0) (o_secondImage 0) rf_o_told rf_o_spare s_o), (gX7 o_spare cB cI cJ cZ (o_spare_words 0) (o_spare_forms 0) (o_spare_paper 0) (o_spare_stock 0) s_o_spare), (gX8 o_text cB cI cJ cZ s_o_text), (gX1 o_spare_forms cB cI cJ cZ s_o_spare_forms), (gX4 o_spare_paper cB cI cJ cZ s_o_spare_paper), (gX4 o_spare_stock cB cI cJ cZ s_o_spare_stock), (gX10 o_spare_words cB cI cJ cZ s_o_spare_words)]
abbrev rm_X11_read_0 : Room := { frames := 7, cells := 0, slots := 0, locals := 150 }
set_option maxHeartbeats 4000000 in
set_option maxRecDepth 100000 in
theorem c_X11_read_0 (l : Launch) (D : gG) (cB cI cJ cZ : ClassId) (o o_spare o_text o_spare_forms o_spare_paper o_spare_stock o_spare_words o_verdict o_trial o_mending o_guess o_choice o_firstImage o_secondImage o_told : Nat → Nat) (s_o : S11) (s_o_spare : S7) (s_o_text : S8) (s_o_spare_forms : S1) (s_o_spare_paper : S4) (s_o_spare_stock : S4) (s_o_spare_words : S10) (r : Int32 × S11 × S7 × S8 × S1 × S4 × S4 × S10) (hf : F_X11_read_0 s_o s_o_spare s_o_text s_o_spare_forms s_o_spare_paper s_o_spare_stock s_o_spare_words = some r) : gM l D (tyL cB cI cJ cZ) yX11_read cX11_read 3 (some .int) rm_X11_read_0 [.ref (o 0)] (w_X11_read_0 o o_spare o_text o_spare_forms o_spare_paper o_spare_stock o_spare_words o_verdict o_trial o_mending o_guess o_choice o_firstImage o_secondImage o_told cB cI cJ cZ s_o s_o_spare s_o_text s_o_spare_forms s_o_spare_paper s_o_spare_stock s_o_spare_words (.ref (o_told 0)) (.ref (o_spare 0))) (some (.int r.1)) (w_X11_read_0 o o_spare o_text o_spare_forms o_spare_paper o_spare_stock o_spare_words o_verdict o_trial o_mending o_guess o_choice o_firstImage o_secondImage o_told cB cI cJ cZ r.2.1 r.2.2.1 r.2.2.2.1 r.2.2.2.2.1 r.2.2.2.2.2.1 r.2.2.2.2.2.2.1 r.2.2.2.2.2.2.2 (.ref (o_told 0)) (.ref (o_spare 0))) := by
  refine met_of (by decide) (Nat.le_of_ble_eq_true rfl) ?_
  intro p e s m args below meth c A cx hr hA
  show gW p l e rm_X11_read_0 s m args below meth c D A 3 _ 0 0 _ [(0, .ref (o 0))] 0 []
  rw [F_X11_read_0] at hf
  refine g_aln cx 0 dX11_read_0 rfl ?_
  refine fg_RX11_10 cx 0 rfl rfl dX11_read_1 ?_
  refine g_aln cx 0 dX11_read_4 rfl ?_
  refine fg_RX11_66 cx 0 rfl rfl dX11_read_5 ?_
  refine ob hf (fun q_1 hq_1 hf => ?_)
  refine g_callSGi (gs' := [(gX11 o cB cI cJ cZ (o_text 0) (o_verdict 0) (o_trial 0) (o_mending 0) (o_guess 0) (o_choice 0) (o_firstImage 0) (o_secondImage 0) (.ref (o_told 0)) (.ref (o_spare 0)) s_o), (gX7 o_spare cB cI cJ cZ (o_spare_words 0) (o_spare_forms 0) (o_spare_paper 0) (o_spare_stock 0) q_1.2.2.1), (gX8 o_text cB cI cJ cZ q_1.2.1), (gX1 o_spare_forms cB cI cJ cZ q_1.2.2.2.1), (gX4 o_spare_paper cB cI cJ cZ q_1.2.2.2.2.1), (gX4 o_spare_stock cB cI cJ cZ q_1.2.2.2.2.2.1), (gX10 o_spare_words cB cI cJ cZ q_1.2.2.2.2.2.2)]) cx lk_RX11_79 (c_X5_tell l D cB cI cJ cZ o_text o_spare o_spare_forms o_spare_paper o_spare_stock o_spare_words s_o_text s_o_spare s_o_spare_forms s_o_spare_paper s_o_spare_stock s_o_spare_words q_1 hq_1) rfl [2, 1, 3, 4, 5, 6] rfl rfl rfl rfl rfl (Nat.le_of_ble_eq_true rfl) ⟨rfl, rfl, Nat.le_of_ble_eq_true rfl, Nat.le_of_ble_eq_true rfl⟩ dX11_read_8 ?_
  refine g_isn cx (L2 := fun v1_2 => [(1, .int v1_2), (0, .ref (o 0))]) hf dX11_read_11 (Nat.le_of_ble_eq_true rfl) (fun _ => rfl) (fun v1_2 hf => ?_)
  refine g_iln cx 0 dX11_read_12 rfl ?_
  refine g_if_ge (tgt := 18) cx hf dX11_read_13 rfl (fun hf => ?_) (fun hf => ?_)
  · refine g_aln cx 1 dX11_read_18 rfl ?_
    refine fg_RX11_62 cx 0 rfl rfl dX11_read_19 ?_
    refine g_asn (L' := [(2, .ref (o_told 0)), (1, .int v1_2), (0, .ref (o 0))]) cx dX11_read_22 (Nat.le_of_ble_eq_true rfl) rfl ?_
    refine g_aln cx 2 dX11_read_23 rfl ?_
    refine g_aln cx 2 dX11_read_24 rfl ?_
    refine fg_RX11_66 cx 0 rfl rfl dX11_read_25 ?_
    refine fp_RX11_62 cx 0 rfl (Nat.le_of_ble_eq_true rfl) (ws' := (w_X11_read_0 o o_spare o_text o_spare_forms o_spare_paper o_spare_stock o_spare_words o_verdict o_trial o_mending o_guess o_choice o_firstImage o_secondImage o_told cB cI cJ cZ s_o q_1.2.2.1 q_1.2.1 q_1.2.2.2.1 q_1.2.2.2.2.1 q_1.2.2.2.2.2.1 q_1.2.2.2.2.2.2 (.ref (o_spare 0)) (.ref (o_spare 0)))) rfl dX11_read_28 ?_
    refine g_aln cx 2 dX11_read_31 rfl ?_
    refine g_aln cx 0 dX11_read_32 rfl ?_
    refine fp_RX11_66 cx 0 rfl (Nat.le_of_ble_eq_true rfl) (ws' := (w_X11_read_0 o o_spare o_text o_spare_forms o_spare_paper o_spare_stock o_spare_words o_verdict o_trial o_mending o_guess o_choice o_firstImage o_secondImage o_told cB cI cJ cZ s_o q_1.2.2.1 q_1.2.1 q_1.2.2.2.1 q_1.2.2.2.2.1 q_1.2.2.2.2.2.1 q_1.2.2.2.2.2.2 (.ref (o_spare 0)) (.ref (o_told 0)))) rfl dX11_read_33 ?_
    refine g_aln cx 2 dX11_read_36 rfl ?_
    refine fg_RX11_10 cx 0 rfl rfl dX11_read_37 ?_
    refine ob hf (fun q_3 hq_3 hf => ?_)
    refine g_callVGv (gs' := [(gX11 o cB cI cJ cZ (o_text 0) (o_verdict 0) (o_trial 0) (o_mending 0) (o_guess 0) (o_choice 0) (o_firstImage 0) (o_secondImage 0) (.ref (o_spare 0)) (.ref (o_told 0)) s_o), (gX7 o_spare cB cI cJ cZ (o_spare_words 0) (o_spare_forms 0) (o_spare_paper 0) (o_spare_stock 0) q_1.2.2.1), (gX8 o_text cB cI cJ cZ q_3), (gX1 o_spare_forms cB cI cJ cZ q_1.2.2.2.1), (gX4 o_spare_paper cB cI cJ cZ q_1.2.2.2.2.1), (gX4 o_spare_stock cB cI cJ cZ q_1.2.2.2.2.2.1), (gX10 o_spare_words cB cI cJ cZ q_1.2.2.2.2.2.2)]) cx lk_RX11_76 (c_X8_wipe l D cB cI cJ cZ o_text q_1.2.1 q_3 hq_3) rfl [2] rfl rfl rfl rfl (ci := 6) (q1 := 0) rfl rfl rfl (Nat.le_of_ble_eq_true rfl) ⟨rfl, rfl, Nat.le_of_ble_eq_true rfl, Nat.le_of_ble_eq_true rfl⟩ dX11_read_40 ?_
    refine g_aln cx 2 dX11_read_43 rfl ?_
    refine g_ic cx dX11_read_44 k_ic0 ?_
    refine fp_RX11_85 cx 0 rfl (Nat.le_of_ble_eq_true rfl) (ws' := (w_X11_read_0 o o_spare o_text o_spare_forms o_spare_paper o_spare_stock o_spare_words o_verdict o_trial o_mending o_guess o_choice o_firstImage o_secondImage o_told cB cI cJ cZ (u11_kept s_o 0) q_1.2.2.1 q_3 q_1.2.2.2.1 q_1.2.2.2.2.1 q_1.2.2.2.2.2.1 q_1.2.2.2.2.2.2 (.ref (o_spare 0)) (.ref (o_told 0)))) rfl dX11_read_45 ?_
    refine g_nm (w := fun s_o_4 => (w_X11_read_0 o o_spare o_text o_spare_forms o_spare_paper o_spare_stock o_spare_words o_verdict o_trial o_mending o_guess o_choice o_firstImage o_secondImage o_told cB cI cJ cZ s_o_4 q_1.2.2.1 q_3 q_1.2.2.2.1 q_1.2.2.2.2.1 q_1.2.2.2.2.2.1 q_1.2.2.2.2.2.2 (.ref (o_spare 0)) (.ref (o_told 0)))) hf (fun s_o_4 hf => ?_)
    refine g_iln cx 1 dX11_read_48 rfl ?_
    cases hf
  · refine g_iln cx 0 dX11_read_16 rfl ?_
    exact g_iret (ovf := fun (r : Int32 × S11 × S7 × S8 × S1 × S4 × S4 × S10) => (some (.int r.1))) (wf := fun (r : Int32 × S11 × S7 × S8 × S1 × S4 × S4 × S10) => (w_X11_read_0 o o_spare o_text o_spare_forms o_spare_paper o_spare_stock o_spare_words o_verdict o_trial o_mending o_guess o_choice o_firstImage o_secondImage o_told cB cI cJ cZ r.2.1 r.2.2.1 r.2.2.2.1 r.2.2.2.2.1 r.2.2.2.2.2.1 r.2.2.2.2.2.2.1 r.2.2.2.2.2.2.2 (.ref (o_told 0)) (.ref (o_spare 0)))) cx hA hr hf rfl rfl dX11_read_17


def F_X11_read_1 (s_o : S11) (s_o_spare : S7) (s_o_text : S8) (s_o_spare_forms : S1) (s_o_spare_paper : S4) (s_o_spare_stock : S4) (s_o_spare_words : S10) : Option (Int32 × S11 × S7 × S8 × S1 × S4 × S4 × S10) := (F_X5_tell s_o_text s_o_spare s_o_spare_forms s_o_spare_paper s_o_spare_stock s_o_spare_words).bind fun q_1 => nm q_1.1 fun v1_2 => (if 0 ≤ v1_2 then (F_X8_wipe q_1.2.1).bind fun q_3 => nm (u11_kept s_o 0) fun s_o_4 => some (v1_2, s_o_4, q_1.2.2.1, q_3, q_1.2.2.2.1, q_1.2.2.2.2.1, q_1.2.2.2.2.2.1, q_1.2.2.2.2.2.2) else none)
def w_X11_read_1 (o o_spare o_text o_spare_forms o_spare_paper o_spare_stock o_spare_words o_verdict o_trial o_mending o_guess o_choice o_firstImage o_secondImage o_told : Nat → Nat) (cB cI cJ cZ : ClassId) (s_o : S11) (s_o_spare : S7) (s_o_text : S8) (s_o_spare_forms : S1) (s_o_spare_paper : S4) (s_o_spare_stock : S4) (s_o_spare_words : S10) (rf_o_told : Value) (rf_o_spare : Value) : va_W := List.flatten [(gX11 o cB cI cJ cZ (o_text 0) (o_verdict 0) (o_trial 0) (o_mending 0) (o_guess 0) (o_choice 0) (o_firstImage 0) (o_secondImage 0) rf_o_told rf_o_spare s_o), (gX7 o_spare cB cI cJ cZ (o_spare_words 0) (o_spare_forms 0) (o_spare_paper 0) (o_spare_stock 0) s_o_spare), (gX8 o_text cB cI cJ cZ s_o_text), (gX1 o_spare_forms cB cI cJ cZ s_o_spare_forms), (gX4 o_spare_paper cB cI cJ cZ s_o_spare_paper), (gX4 o_spare_stock cB cI cJ cZ s_o_spare_stock), (gX10 o_spare_words cB cI cJ cZ s_o_spare_words)]
abbrev rm_X11_read_1 : Room := { frames := 7, cells := 0, slots := 0, locals := 150 }
set_option maxHeartbeats 4000000 in
set_option maxRecDepth 100000 in
theorem c_X11_read_1 (l : Launch) (D : gG) (cB cI cJ cZ : ClassId) (o o_spare o_text o_spare_forms o_spare_paper o_spare_stock o_spare_words o_verdict o_trial o_mending o_guess o_choice o_firstImage o_secondImage o_told : Nat → Nat) (s_o : S11) (s_o_spare : S7) (s_o_text : S8) (s_o_spare_forms : S1) (s_o_spare_paper : S4) (s_o_spare_stock : S4) (s_o_spare_words : S10) (r : Int32 × S11 × S7 × S8 × S1 × S4 × S4 × S10) (hf : F_X11_read_1 s_o s_o_spare s_o_text s_o_spare_forms s_o_spare_paper s_o_spare_stock s_o_spare_words = some r) : gM l D (tyL cB cI cJ cZ) yX11_read cX11_read 3 (some .int) rm_X11_read_1 [.ref (o 0)] (w_X11_read_1 o o_spare o_text o_spare_forms o_spare_paper o_spare_stock o_spare_words o_verdict o_trial o_mending o_guess o_choice o_firstImage o_secondImage o_told cB cI cJ cZ s_o s_o_spare s_o_text s_o_spare_forms s_o_spare_paper s_o_spare_stock s_o_spare_words (.ref (o_told 0)) (.ref (o_spare 0))) (some (.int r.1)) (w_X11_read_1 o o_spare o_text o_spare_forms o_spare_paper o_spare_stock o_spare_words o_verdict o_trial o_mending o_guess o_choice o_firstImage o_secondImage o_told cB cI cJ cZ r.2.1 r.2.2.1 r.2.2.2.1 r.2.2.2.2.1 r.2.2.2.2.2.1 r.2.2.2.2.2.2.1 r.2.2.2.2.2.2.2 (.ref (o_spare 0)) (.ref (o_told 0))) := by
  refine met_of (by decide) (Nat.le_of_ble_eq_true rfl) ?_
  intro p e s m args below meth c A cx hr hA
  show gW p l e rm_X11_read_1 s m args below meth c D A 3 _ 0 0 _ [(0, .ref (o 0))] 0 []
  rw [F_X11_read_1] at hf
  refine g_aln cx 0 dX11_read_0 rfl ?_
  refine fg_RX11_10 cx 0 rfl rfl dX11_read_1 ?_
  refine g_aln cx 0 dX11_read_4 rfl ?_
  refine fg_RX11_66 cx 0 rfl rfl dX11_read_5 ?_
  refine ob hf (fun q_1 hq_1 hf => ?_)
  refine g_callSGi (gs' := [(gX11 o cB cI cJ cZ (o_text 0) (o_verdict 0) (o_trial 0) (o_mending 0) (o_guess 0) (o_choice 0) (o_firstImage 0) (o_secondImage 0) (.ref (o_told 0)) (.ref (o_spare 0)) s_o), (gX7 o_spare cB cI cJ cZ (o_spare_words 0) (o_spare_forms 0) (o_spare_paper 0) (o_spare_stock 0) q_1.2.2.1), (gX8 o_text cB cI cJ cZ q_1.2.1), (gX1 o_spare_forms cB cI cJ cZ q_1.2.2.2.1), (gX4 o_spare_paper cB cI cJ cZ q_1.2.2.2.2.1), (gX4 o_spare_stock cB cI cJ cZ q_1.2.2.2.2.2.1), (gX10 o_spare_words cB cI cJ cZ q_1.2.2.2.2.2.2)]) cx lk_RX11_79 (c_X5_tell l D cB cI cJ cZ o_text o_spare o_spare_forms o_spare_paper o_spare_stock o_spare_words s_o_text s_o_spare s_o_spare_forms s_o_spare_paper s_o_spare_stock s_o_spare_words q_1 hq_1) rfl [2, 1, 3, 4, 5, 6] rfl rfl rfl rfl rfl (Nat.le_of_ble_eq_true rfl) ⟨rfl, rfl, Nat.le_of_ble_eq_true rfl, Nat.le_of_ble_eq_true rfl⟩ dX11_read_8 ?_
  refine g_isn cx (L2 := fun v1_2 => [(1, .int v1_2), (0, .ref (o 0))]) hf dX11_read_11 (Nat.le_of_ble_eq_true rfl) (fun _ => rfl) (fun v1_2 hf => ?_)
  refine g_iln cx 0 dX11_read_12 rfl ?_
  refine g_if_ge (tgt := 18) cx hf dX11_read_13 rfl (fun hf => ?_) (fun hf => ?_)
  · refine g_aln cx 1 dX11_read_18 rfl ?_
    refine fg_RX11_62 cx 0 rfl rfl dX11_read_19 ?_
    refine g_asn (L' := [(2, .ref (o_told 0)), (1, .int v1_2), (0, .ref (o 0))]) cx dX11_read_22 (Nat.le_of_ble_eq_true rfl) rfl ?_
    refine g_aln cx 2 dX11_read_23 rfl ?_
    refine g_aln cx 2 dX11_read_24 rfl ?_
    refine fg_RX11_66 cx 0 rfl rfl dX11_read_25 ?_
    refine fp_RX11_62 cx 0 rfl (Nat.le_of_ble_eq_true rfl) (ws' := (w_X11_read_1 o o_spare o_text o_spare_forms o_spare_paper o_spare_stock o_spare_words o_verdict o_trial o_mending o_guess o_choice o_firstImage o_secondImage o_told cB cI cJ cZ s_o q_1.2.2.1 q_1.2.1 q_1.2.2.2.1 q_1.2.2.2.2.1 q_1.2.2.2.2.2.1 q_1.2.2.2.2.2.2 (.ref (o_spare 0)) (.ref (o_spare 0)))) rfl dX11_read_28 ?_
    refine g_aln cx 2 dX11_read_31 rfl ?_
    refine g_aln cx 0 dX11_read_32 rfl ?_
    refine fp_RX11_66 cx 0 rfl (Nat.le_of_ble_eq_true rfl) (ws' := (w_X11_read_1 o o_spare o_text o_spare_forms o_spare_paper o_spare_stock o_spare_words o_verdict o_trial o_mending o_guess o_choice o_firstImage o_secondImage o_told cB cI cJ cZ s_o q_1.2.2.1 q_1.2.1 q_1.2.2.2.1 q_1.2.2.2.2.1 q_1.2.2.2.2.2.1 q_1.2.2.2.2.2.2 (.ref (o_spare 0)) (.ref (o_told 0)))) rfl dX11_read_33 ?_
    refine g_aln cx 2 dX11_read_36 rfl ?_
    refine fg_RX11_10 cx 0 rfl rfl dX11_read_37 ?_
    refine ob hf (fun q_3 hq_3 hf => ?_)
    refine g_callVGv (gs' := [(gX11 o cB cI cJ cZ (o_text 0) (o_verdict 0) (o_trial 0) (o_mending 0) (o_guess 0) (o_choice 0) (o_firstImage 0) (o_secondImage 0) (.ref (o_spare 0)) (.ref (o_told 0)) s_o), (gX7 o_spare cB cI cJ cZ (o_spare_words 0) (o_spare_forms 0) (o_spare_paper 0) (o_spare_stock 0) q_1.2.2.1), (gX8 o_text cB cI cJ cZ q_3), (gX1 o_spare_forms cB cI cJ cZ q_1.2.2.2.1), (gX4 o_spare_paper cB cI cJ cZ q_1.2.2.2.2.1), (gX4 o_spare_stock cB cI cJ cZ q_1.2.2.2.2.2.1), (gX10 o_spare_words cB cI cJ cZ q_1.2.2.2.2.2.2)]) cx lk_RX11_76 (c_X8_wipe l D cB cI cJ cZ o_text q_1.2.1 q_3 hq_3) rfl [2] rfl rfl rfl rfl (ci := 6) (q1 := 0) rfl rfl rfl (Nat.le_of_ble_eq_true rfl) ⟨rfl, rfl, Nat.le_of_ble_eq_true rfl, Nat.le_of_ble_eq_true rfl⟩ dX11_read_40 ?_
    refine g_aln cx 2 dX11_read_43 rfl ?_
    refine g_ic cx dX11_read_44 k_ic0 ?_
    refine fp_RX11_85 cx 0 rfl (Nat.le_of_ble_eq_true rfl) (ws' := (w_X11_read_1 o o_spare o_text o_spare_forms o_spare_paper o_spare_stock o_spare_words o_verdict o_trial o_mending o_guess o_choice o_firstImage o_secondImage o_told cB cI cJ cZ (u11_kept s_o 0) q_1.2.2.1 q_3 q_1.2.2.2.1 q_1.2.2.2.2.1 q_1.2.2.2.2.2.1 q_1.2.2.2.2.2.2 (.ref (o_spare 0)) (.ref (o_told 0)))) rfl dX11_read_45 ?_
    refine g_nm (w := fun s_o_4 => (w_X11_read_1 o o_spare o_text o_spare_forms o_spare_paper o_spare_stock o_spare_words o_verdict o_trial o_mending o_guess o_choice o_firstImage o_secondImage o_told cB cI cJ cZ s_o_4 q_1.2.2.1 q_3 q_1.2.2.2.1 q_1.2.2.2.2.1 q_1.2.2.2.2.2.1 q_1.2.2.2.2.2.2 (.ref (o_spare 0)) (.ref (o_told 0)))) hf (fun s_o_4 hf => ?_)
    refine g_iln cx 1 dX11_read_48 rfl ?_
    exact g_iret (ovf := fun (r : Int32 × S11 × S7 × S8 × S1 × S4 × S4 × S10) => (some (.int r.1))) (wf := fun (r : Int32 × S11 × S7 × S8 × S1 × S4 × S4 × S10) => (w_X11_read_1 o o_spare o_text o_spare_forms o_spare_paper o_spare_stock o_spare_words o_verdict o_trial o_mending o_guess o_choice o_firstImage o_secondImage o_told cB cI cJ cZ r.2.1 r.2.2.1 r.2.2.2.1 r.2.2.2.2.1 r.2.2.2.2.2.1 r.2.2.2.2.2.2.1 r.2.2.2.2.2.2.2 (.ref (o_spare 0)) (.ref (o_told 0)))) cx hA hr hf rfl rfl dX11_read_49
  · refine g_iln cx 0 dX11_read_16 rfl ?_
    cases hf
theorem dX11_word_0 : decode cX11_word 0 = .ok (.aload_n 0, 1) := by decide +kernel
theorem dX11_word_1 : decode cX11_word 1 = .ok (.getfield 62, 3) := by decide +kernel
theorem dX11_word_4 : decode cX11_word 4 = .ok (.getfield 89, 3) := by decide +kernel
theorem dX11_word_7 : decode cX11_word 7 = .ok (.iload_n 1, 1) := by decide +kernel
theorem dX11_word_8 : decode cX11_word 8 = .ok (.invokevirtual 93, 3) := by decide +kernel
theorem dX11_word_11 : decode cX11_word 11 = .ok (.ifCond .ne 5, 3) := by decide +kernel
theorem dX11_word_14 : decode cX11_word 14 = .ok (.iconst (-1), 1) := by decide +kernel
theorem dX11_word_15 : decode cX11_word 15 = .ok (.ireturn, 1) := by decide +kernel
theorem dX11_word_16 : decode cX11_word 16 = .ok (.iload_n 2, 1) := by decide +kernel
theorem dX11_word_17 : decode cX11_word 17 = .ok (.tableswitch 81 0 3 #[31, 44, 57, 69], 31) := by decide +kernel
theorem dX11_word_48 : decode cX11_word 48 = .ok (.aload_n 0, 1) := by decide +kernel
theorem dX11_word_49 : decode cX11_word 49 = .ok (.getfield 62, 3) := by decide +kernel
theorem dX11_word_52 : decode cX11_word 52 = .ok (.getfield 89, 3) := by decide +kernel
theorem dX11_word_55 : decode cX11_word 55 = .ok (.iconst 0, 1) := by decide +kernel
theorem dX11_word_56 : decode cX11_word 56 = .ok (.iload_n 1, 1) := by decide +kernel
theorem dX11_word_57 : decode cX11_word 57 = .ok (.invokevirtual 99, 3) := by decide +kernel
theorem dX11_word_60 : decode cX11_word 60 = .ok (.ireturn, 1) := by decide +kernel
theorem dX11_word_61 : decode cX11_word 61 = .ok (.aload_n 0, 1) := by decide +kernel
theorem dX11_word_62 : decode cX11_word 62 = .ok (.getfield 62, 3) := by decide +kernel
theorem dX11_word_65 : decode cX11_word 65 = .ok (.getfield 89, 3) := by decide +kernel
theorem dX11_word_68 : decode cX11_word 68 = .ok (.iconst 1, 1) := by decide +kernel
theorem dX11_word_69 : decode cX11_word 69 = .ok (.iload_n 1, 1) := by decide +kernel
theorem dX11_word_70 : decode cX11_word 70 = .ok (.invokevirtual 99, 3) := by decide +kernel
theorem dX11_word_73 : decode cX11_word 73 = .ok (.ireturn, 1) := by decide +kernel
theorem dX11_word_74 : decode cX11_word 74 = .ok (.aload_n 0, 1) := by decide +kernel
theorem dX11_word_75 : decode cX11_word 75 = .ok (.getfield 62, 3) := by decide +kernel
theorem dX11_word_78 : decode cX11_word 78 = .ok (.getfield 89, 3) := by decide +kernel
theorem dX11_word_81 : decode cX11_word 81 = .ok (.iload_n 1, 1) := by decide +kernel
theorem dX11_word_82 : decode cX11_word 82 = .ok (.invokevirtual 103, 3) := by decide +kernel
theorem dX11_word_85 : decode cX11_word 85 = .ok (.ireturn, 1) := by decide +kernel
theorem dX11_word_86 : decode cX11_word 86 = .ok (.aload_n 0, 1) := by decide +kernel
theorem dX11_word_87 : decode cX11_word 87 = .ok (.getfield 62, 3) := by decide +kernel
theorem dX11_word_90 : decode cX11_word 90 = .ok (.getfield 89, 3) := by decide +kernel
theorem dX11_word_93 : decode cX11_word 93 = .ok (.iload_n 1, 1) := by decide +kernel
theorem dX11_word_94 : decode cX11_word 94 = .ok (.invokevirtual 107, 3) := by decide +kernel
theorem dX11_word_97 : decode cX11_word 97 = .ok (.ireturn, 1) := by decide +kernel
theorem dX11_word_98 : decode cX11_word 98 = .ok (.iconst (-1), 1) := by decide +kernel
theorem dX11_word_99 : decode cX11_word 99 = .ok (.ireturn, 1) := by decide +kernel
theorem sw_3 {x : Int32} (h0 : ¬ x = 0) (h1 : ¬ x = 1) (h2 : ¬ x = 2) (h3 : ¬ x = 3) : ∀ n : Nat, n ≤ 3 → ¬ x = nI n := by
  intro n hn
  match n, hn with
  | 0, _ => exact h0
  | 1, _ => exact h1
  | 2, _ => exact h2
  | 3, _ => exact h3
theorem q1_202 : Cond.fieldLink RX11 89 "RhymeLaw$Tale" "words" "LRhymeLaw$Words;" ∈ TT := tq1 202 rfl rfl
theorem q3_27 : Cond.methodLink RX11 93 yX10_has ∈ TT := tq3 27 rfl rfl
theorem q3_28 : Cond.instanceMethod yX10_has ∈ TT := tq3 28 rfl rfl
theorem q3_29 : Cond.selects RX10 yX10_has yX10_has ∈ TT := tq3 29 rfl rfl
theorem q3_30 : Cond.code yX10_has cX10_has 2 (some .boolean) ∈ TT := tq3 30 rfl rfl
theorem q3_31 : Cond.methodLink RX11 99 yX10_sound ∈ TT := tq3 31 rfl rfl
theorem q3_36 : Cond.methodLink RX11 103 yX10_meaning ∈ TT := tq3 36 rfl rfl
theorem q3_40 : Cond.methodLink RX11 107 yX10_syllables ∈ TT := tq3 40 rfl rfl
theorem fg_RX11_89 {p : Program} {l : Launch} {e : Env} {R : Room} {s : State} {m : MethodId} {args : Array Value} {below : List Frame} {meth : Method} {c : Code} {D : gG} {tys : List (ClassId × FieldType)} {A : Nat → Prop} {nL : Nat} {Q : State → Prop} {cells slots : Nat} {cc : ByteArray} {ws : va_W} {L : List (Nat × Value)} {pc : Nat} {stk : List Value} (cx : gX p s m args meth c cc nL RX11 D tys A) {a : Nat} {fs : List Value} {v : Value} (q0 : Nat) (he : ws[q0]? = some (a, .inr (5, fs))) (hv : fs[0]? = some v) (hd : decode cc pc = .ok (.getfield 89, 3)) (kk : gW p l e R s m args below meth c D A nL Q cells slots ws L (pc + 3) (v :: stk)) : gW p l e R s m args below meth c D A nL Q cells slots ws L pc (.ref a :: stk) :=
  g_get cx (C := RX7) (T := TX7) (N := 5) inT7 rfl 0 (Nat.le_of_ble_eq_true rfl) q1_202 rfl q0 he hv hd kk
theorem lk_RX11_93 : vlk RX11 93 yX10_has cX10_has 2 (some .boolean) 1 := ⟨List.forall_mem_cons.mpr ⟨q3_27, List.forall_mem_cons.mpr ⟨q3_28, List.forall_mem_cons.mpr ⟨q3_29, List.forall_mem_cons.mpr ⟨q1_10, fun _ h => absurd h List.not_mem_nil⟩⟩⟩⟩, q3_30, by decide, by decide, by decide +kernel⟩
theorem lk_RX11_99 : vlk RX11 99 yX10_sound cX10_sound 3 (some .int) 2 := ⟨List.forall_mem_cons.mpr ⟨q3_31, List.forall_mem_cons.mpr ⟨q3_32, List.forall_mem_cons.mpr ⟨q3_33, List.forall_mem_cons.mpr ⟨q1_10, fun _ h => absurd h List.not_mem_nil⟩⟩⟩⟩, q3_34, by decide, by decide, by decide +kernel⟩
theorem lk_RX11_103 : vlk RX11 103 yX10_meaning cX10_meaning 2 (some .int) 1 := ⟨List.forall_mem_cons.mpr ⟨q3_36, List.forall_mem_cons.mpr ⟨q3_37, List.forall_mem_cons.mpr ⟨q3_38, List.forall_mem_cons.mpr ⟨q1_10, fun _ h => absurd h List.not_mem_nil⟩⟩⟩⟩, q3_39, by decide, by decide, by decide +kernel⟩
theorem lk_RX11_107 : vlk RX11 107 yX10_syllables cX10_syllables 2 (some .int) 1 := ⟨List.forall_mem_cons.mpr ⟨q3_40, List.forall_mem_cons.mpr ⟨q3_41, List.forall_mem_cons.mpr ⟨q3_42, List.forall_mem_cons.mpr ⟨q1_10, fun _ h => absurd h List.not_mem_nil⟩⟩⟩⟩, q3_43, by decide, by decide, by decide +kernel⟩
def F_X11_word (s_o : S11) (s_o_told : S7) (s_o_told_words : S10) (x1 : Int32) (x2 : Int32) : Option (Int32) := (F_X10_has s_o_told_words x1).bind fun q_1 => (if q_1 = 0 then some ((-1)) else (if x2 = 0 then (F_X10_sound s_o_told_words 0 x1).bind fun q_2 => some (q_2) else (if x2 = 1 then (F_X10_sound s_o_told_words 1 x1).bind fun q_3 => some (q_3) else (if x2 = 2 then (F_X10_meaning s_o_told_words x1).bind fun q_4 => some (q_4) else (if x2 = 3 then (F_X10_syllables s_o_told_words x1).bind fun q_5 => some (q_5) else some ((-1)))))))
def w_X11_word (o o_told o_told_words o_text o_verdict o_trial o_mending o_guess o_choice o_firstImage o_secondImage o_spare o_told_forms o_told_paper o_told_stock : Nat → Nat) (cB cI cJ cZ : ClassId) (s_o : S11) (s_o_told : S7) (s_o_told_words : S10) (rf_o_told : Value) (rf_o_spare : Value) : va_W := List.flatten [(gX11 o cB cI cJ cZ (o_text 0) (o_verdict 0) (o_trial 0) (o_mending 0) (o_guess 0) (o_choice 0) (o_firstImage 0) (o_secondImage 0) rf_o_told rf_o_spare s_o), (gX7 o_told cB cI cJ cZ (o_told_words 0) (o_told_forms 0) (o_told_paper 0) (o_told_stock 0) s_o_told), (gX10 o_told_words cB cI cJ cZ s_o_told_words)]
abbrev rm_X11_word : Room := { frames := 2, cells := 0, slots := 0, locals := 43 }
set_option maxHeartbeats 4000000 in
set_option maxRecDepth 100000 in
theorem c_X11_word (l : Launch) (D : gG) (cB cI cJ cZ : ClassId) (o o_told o_told_words o_text o_verdict o_trial o_mending o_guess o_choice o_firstImage o_secondImage o_spare o_told_forms o_told_paper o_told_stock : Nat → Nat) (s_o : S11) (s_o_told : S7) (s_o_told_words : S10) (x1 : Int32) (x2 : Int32) (r : Int32) (hf : F_X11_word s_o s_o_told s_o_told_words x1 x2 = some r) : gM l D (tyL cB cI cJ cZ) yX11_word cX11_word 3 (some .int) rm_X11_word [.ref (o 0), .int x1, .int x2] (w_X11_word o o_told o_told_words o_text o_verdict o_trial o_mending o_guess o_choice o_firstImage o_secondImage o_spare o_told_forms o_told_paper o_told_stock cB cI cJ cZ s_o s_o_told s_o_told_words (.ref (o_told 0)) (.ref (o_spare 0))) (some (.int r)) (w_X11_word o o_told o_told_words o_text o_verdict o_trial o_mending o_guess o_choice o_firstImage o_secondImage o_spare o_told_forms o_told_paper o_told_stock cB cI cJ cZ s_o s_o_told s_o_told_words (.ref (o_told 0)) (.ref (o_spare 0))) := by
  refine met_of (by decide) (Nat.le_of_ble_eq_true rfl) ?_
  intro p e s m args below meth c A cx hr hA
  show gW p l e rm_X11_word s m args below meth c D A 3 _ 0 0 _ [(0, .ref (o 0)), (1, .int x1), (2, .int x2)] 0 []
  rw [F_X11_word] at hf
  refine g_aln cx 0 dX11_word_0 rfl ?_
  refine fg_RX11_62 cx 0 rfl rfl dX11_word_1 ?_
  refine fg_RX11_89 cx 1 rfl rfl dX11_word_4 ?_
  refine g_iln cx 1 dX11_word_7 rfl ?_
  refine ob hf (fun q_1 hq_1 hf => ?_)
  refine g_callVGiR cx lk_RX11_93 (c_X10_has l D cB cI cJ cZ o_told_words s_o_told_words x1 q_1 hq_1) rfl [2] rfl rfl (ci := 8) (q1 := 0) rfl rfl rfl (Nat.le_of_ble_eq_true rfl) ⟨rfl, rfl, Nat.le_of_ble_eq_true rfl, Nat.le_of_ble_eq_true rfl⟩ dX11_word_8 ?_
  refine g_if_ne (tgt := 16) cx hf dX11_word_11 rfl (fun hf => ?_) (fun hf => ?_)
  · refine g_iln cx 2 dX11_word_16 rfl ?_
    by_cases hx0 : x2 = 0
    · rw [if_pos hx0] at hf
      refine g_swIn (tgt := 48) cx 0 hx0 (by decide) dX11_word_17 (by decide) rfl rfl ?_
      refine g_aln cx 0 dX11_word_48 rfl ?_
      refine fg_RX11_62 cx 0 rfl rfl dX11_word_49 ?_
      refine fg_RX11_89 cx 1 rfl rfl dX11_word_52 ?_
      refine g_ic cx dX11_word_55 k_ic0 ?_
      refine g_iln cx 1 dX11_word_56 rfl ?_
      refine ob hf (fun q_2 hq_2 hf => ?_)
      refine g_callVGiR cx lk_RX11_99 (c_X10_sound l D cB cI cJ cZ o_told_words s_o_told_words 0 x1 q_2 hq_2) rfl [2] rfl rfl (ci := 8) (q1 := 0) rfl rfl rfl (Nat.le_of_ble_eq_true rfl) ⟨rfl, rfl, Nat.le_of_ble_eq_true rfl, Nat.le_of_ble_eq_true rfl⟩ dX11_word_57 ?_
      exact g_iret (ovf := fun (r : Int32) => (some (.int r))) (wf := fun (r : Int32) => (w_X11_word o o_told o_told_words o_text o_verdict o_trial o_mending o_guess o_choice o_firstImage o_secondImage o_spare o_told_forms o_told_paper o_told_stock cB cI cJ cZ s_o s_o_told s_o_told_words (.ref (o_told 0)) (.ref (o_spare 0)))) cx hA hr hf rfl rfl dX11_word_60
    rw [if_neg hx0] at hf
    by_cases hx1 : x2 = 1
    · rw [if_pos hx1] at hf
      refine g_swIn (tgt := 61) cx 1 hx1 (by decide) dX11_word_17 (by decide) rfl rfl ?_
      refine g_aln cx 0 dX11_word_61 rfl ?_
      refine fg_RX11_62 cx 0 rfl rfl dX11_word_62 ?_
      refine fg_RX11_89 cx 1 rfl rfl dX11_word_65 ?_
      refine g_ic cx dX11_word_68 k_ic1 ?_
      refine g_iln cx 1 dX11_word_69 rfl ?_
      refine ob hf (fun q_3 hq_3 hf => ?_)
      refine g_callVGiR cx lk_RX11_99 (c_X10_sound l D cB cI cJ cZ o_told_words s_o_told_words 1 x1 q_3 hq_3) rfl [2] rfl rfl (ci := 8) (q1 := 0) rfl rfl rfl (Nat.le_of_ble_eq_true rfl) ⟨rfl, rfl, Nat.le_of_ble_eq_true rfl, Nat.le_of_ble_eq_true rfl⟩ dX11_word_70 ?_
      exact g_iret (ovf := fun (r : Int32) => (some (.int r))) (wf := fun (r : Int32) => (w_X11_word o o_told o_told_words o_text o_verdict o_trial o_mending o_guess o_choice o_firstImage o_secondImage o_spare o_told_forms o_told_paper o_told_stock cB cI cJ cZ s_o s_o_told s_o_told_words (.ref (o_told 0)) (.ref (o_spare 0)))) cx hA hr hf rfl rfl dX11_word_73
    rw [if_neg hx1] at hf
    by_cases hx2 : x2 = 2
    · rw [if_pos hx2] at hf
      refine g_swIn (tgt := 74) cx 2 hx2 (by decide) dX11_word_17 (by decide) rfl rfl ?_
      refine g_aln cx 0 dX11_word_74 rfl ?_
      refine fg_RX11_62 cx 0 rfl rfl dX11_word_75 ?_
      refine fg_RX11_89 cx 1 rfl rfl dX11_word_78 ?_
      refine g_iln cx 1 dX11_word_81 rfl ?_
      refine ob hf (fun q_4 hq_4 hf => ?_)
      refine g_callVGiR cx lk_RX11_103 (c_X10_meaning l D cB cI cJ cZ o_told_words s_o_told_words x1 q_4 hq_4) rfl [2] rfl rfl (ci := 8) (q1 := 0) rfl rfl rfl (Nat.le_of_ble_eq_true rfl) ⟨rfl, rfl, Nat.le_of_ble_eq_true rfl, Nat.le_of_ble_eq_true rfl⟩ dX11_word_82 ?_
      exact g_iret (ovf := fun (r : Int32) => (some (.int r))) (wf := fun (r : Int32) => (w_X11_word o o_told o_told_words o_text o_verdict o_trial o_mending o_guess o_choice o_firstImage o_secondImage o_spare o_told_forms o_told_paper o_told_stock cB cI cJ cZ s_o s_o_told s_o_told_words (.ref (o_told 0)) (.ref (o_spare 0)))) cx hA hr hf rfl rfl dX11_word_85
    rw [if_neg hx2] at hf
    by_cases hx3 : x2 = 3
    · rw [if_pos hx3] at hf
      refine g_swIn (tgt := 86) cx 3 hx3 (by decide) dX11_word_17 (by decide) rfl rfl ?_
      refine g_aln cx 0 dX11_word_86 rfl ?_
      refine fg_RX11_62 cx 0 rfl rfl dX11_word_87 ?_
      refine fg_RX11_89 cx 1 rfl rfl dX11_word_90 ?_
      refine g_iln cx 1 dX11_word_93 rfl ?_
      refine ob hf (fun q_5 hq_5 hf => ?_)
      refine g_callVGiR cx lk_RX11_107 (c_X10_syllables l D cB cI cJ cZ o_told_words s_o_told_words x1 q_5 hq_5) rfl [2] rfl rfl (ci := 8) (q1 := 0) rfl rfl rfl (Nat.le_of_ble_eq_true rfl) ⟨rfl, rfl, Nat.le_of_ble_eq_true rfl, Nat.le_of_ble_eq_true rfl⟩ dX11_word_94 ?_
      exact g_iret (ovf := fun (r : Int32) => (some (.int r))) (wf := fun (r : Int32) => (w_X11_word o o_told o_told_words o_text o_verdict o_trial o_mending o_guess o_choice o_firstImage o_secondImage o_spare o_told_forms o_told_paper o_told_stock cB cI cJ cZ s_o s_o_told s_o_told_words (.ref (o_told 0)) (.ref (o_spare 0)))) cx hA hr hf rfl rfl dX11_word_97
    rw [if_neg hx3] at hf
    refine g_swOut (tgt := 98) cx 3 (sw_3 hx0 hx1 hx2 hx3) dX11_word_17 rfl ?_
    refine g_ic cx dX11_word_98 k_icm1 ?_
    exact g_iret (ovf := fun (r : Int32) => (some (.int r))) (wf := fun (r : Int32) => (w_X11_word o o_told o_told_words o_text o_verdict o_trial o_mending o_guess o_choice o_firstImage o_secondImage o_spare o_told_forms o_told_paper o_told_stock cB cI cJ cZ s_o s_o_told s_o_told_words (.ref (o_told 0)) (.ref (o_spare 0)))) cx hA hr hf rfl rfl dX11_word_99
  · refine g_ic cx dX11_word_14 k_icm1 ?_
    exact g_iret (ovf := fun (r : Int32) => (some (.int r))) (wf := fun (r : Int32) => (w_X11_word o o_told o_told_words o_text o_verdict o_trial o_mending o_guess o_choice o_firstImage o_secondImage o_spare o_told_forms o_told_paper o_told_stock cB cI cJ cZ s_o s_o_told s_o_told_words (.ref (o_told 0)) (.ref (o_spare 0)))) cx hA hr hf rfl rfl dX11_word_15
theorem dX11_form_0 : decode cX11_form 0 = .ok (.aload_n 0, 1) := by decide +kernel
theorem dX11_form_1 : decode cX11_form 1 = .ok (.getfield 62, 3) := by decide +kernel
theorem dX11_form_4 : decode cX11_form 4 = .ok (.getfield 110, 3) := by decide +kernel
theorem dX11_form_7 : decode cX11_form 7 = .ok (.iload_n 1, 1) := by decide +kernel
theorem dX11_form_8 : decode cX11_form 8 = .ok (.invokevirtual 114, 3) := by decide +kernel
theorem dX11_form_11 : decode cX11_form 11 = .ok (.ifCond .eq 13, 3) := by decide +kernel
theorem dX11_form_14 : decode cX11_form 14 = .ok (.iload_n 2, 1) := by decide +kernel
theorem dX11_form_15 : decode cX11_form 15 = .ok (.ifCond .lt 9, 3) := by decide +kernel
theorem dX11_form_18 : decode cX11_form 18 = .ok (.iload_n 2, 1) := by decide +kernel
theorem dX11_form_19 : decode cX11_form 19 = .ok (.bipush 99, 2) := by decide +kernel
theorem dX11_form_21 : decode cX11_form 21 = .ok (.if_icmp .le 5, 3) := by decide +kernel
theorem dX11_form_24 : decode cX11_form 24 = .ok (.iconst (-1), 1) := by decide +kernel
theorem dX11_form_25 : decode cX11_form 25 = .ok (.ireturn, 1) := by decide +kernel
theorem dX11_form_26 : decode cX11_form 26 = .ok (.aload_n 0, 1) := by decide +kernel
theorem dX11_form_27 : decode cX11_form 27 = .ok (.getfield 62, 3) := by decide +kernel
theorem dX11_form_30 : decode cX11_form 30 = .ok (.getfield 110, 3) := by decide +kernel
theorem dX11_form_33 : decode cX11_form 33 = .ok (.iload_n 1, 1) := by decide +kernel
theorem dX11_form_34 : decode cX11_form 34 = .ok (.iload_n 2, 1) := by decide +kernel
theorem dX11_form_35 : decode cX11_form 35 = .ok (.invokevirtual 117, 3) := by decide +kernel
theorem dX11_form_38 : decode cX11_form 38 = .ok (.ireturn, 1) := by decide +kernel
theorem k_bp99 : (Int8.ofInt (99)).toInt32 = 99 := by decide
theorem q1_210 : Cond.fieldLink RX11 110 "RhymeLaw$Tale" "forms" "LRhymeLaw$Forms;" ∈ TT := tq1 210 rfl rfl
theorem q3_48 : Cond.methodLink RX11 114 yX1_has ∈ TT := tq3 48 rfl rfl
theorem q3_49 : Cond.instanceMethod yX1_has ∈ TT := tq3 49 rfl rfl
theorem q3_50 : Cond.selects RX1 yX1_has yX1_has ∈ TT := tq3 50 rfl rfl
theorem q3_51 : Cond.code yX1_has cX1_has 2 (some .boolean) ∈ TT := tq3 51 rfl rfl
theorem q3_52 : Cond.methodLink RX11 117 yX1_letter ∈ TT := tq3 52 rfl rfl
theorem fg_RX11_110 {p : Program} {l : Launch} {e : Env} {R : Room} {s : State} {m : MethodId} {args : Array Value} {below : List Frame} {meth : Method} {c : Code} {D : gG} {tys : List (ClassId × FieldType)} {A : Nat → Prop} {nL : Nat} {Q : State → Prop} {cells slots : Nat} {cc : ByteArray} {ws : va_W} {L : List (Nat × Value)} {pc : Nat} {stk : List Value} (cx : gX p s m args meth c cc nL RX11 D tys A) {a : Nat} {fs : List Value} {v : Value} (q0 : Nat) (he : ws[q0]? = some (a, .inr (5, fs))) (hv : fs[1]? = some v) (hd : decode cc pc = .ok (.getfield 110, 3)) (kk : gW p l e R s m args below meth c D A nL Q cells slots ws L (pc + 3) (v :: stk)) : gW p l e R s m args below meth c D A nL Q cells slots ws L pc (.ref a :: stk) :=
  g_get cx (C := RX7) (T := TX7) (N := 5) inT7 rfl 1 (Nat.le_of_ble_eq_true rfl) q1_210 rfl q0 he hv hd kk
theorem lk_RX11_114 : vlk RX11 114 yX1_has cX1_has 2 (some .boolean) 1 := ⟨List.forall_mem_cons.mpr ⟨q3_48, List.forall_mem_cons.mpr ⟨q3_49, List.forall_mem_cons.mpr ⟨q3_50, List.forall_mem_cons.mpr ⟨q1_11, fun _ h => absurd h List.not_mem_nil⟩⟩⟩⟩, q3_51, by decide, by decide, by decide +kernel⟩
theorem lk_RX11_117 : vlk RX11 117 yX1_letter cX1_letter 4 (some .int) 2 := ⟨List.forall_mem_cons.mpr ⟨q3_52, List.forall_mem_cons.mpr ⟨q3_53, List.forall_mem_cons.mpr ⟨q3_54, List.forall_mem_cons.mpr ⟨q1_11, fun _ h => absurd h List.not_mem_nil⟩⟩⟩⟩, q3_55, by decide, by decide, by decide +kernel⟩
def F_X11_form (s_o : S11) (s_o_told : S7) (s_o_told_forms : S1) (x1 : Int32) (x2 : Int32) : Option (Int32) := (F_X1_has s_o_told_forms x1).bind fun q_1 => (if q_1 = 0 then some ((-1)) else (if x2 < 0 then some ((-1)) else (if x2 ≤ 99 then (F_X1_letter s_o_told_forms x1 x2).bind fun q_2 => some (q_2) else some ((-1)))))
def w_X11_form (o o_told o_told_forms o_text o_verdict o_trial o_mending o_guess o_choice o_firstImage o_secondImage o_spare o_told_words o_told_paper o_told_stock : Nat → Nat) (cB cI cJ cZ : ClassId) (s_o : S11) (s_o_told : S7) (s_o_told_forms : S1) (rf_o_told : Value) (rf_o_spare : Value) : va_W := List.flatten [(gX11 o cB cI cJ cZ (o_text 0) (o_verdict 0) (o_trial 0) (o_mending 0) (o_guess 0) (o_choice 0) (o_firstImage 0) (o_secondImage 0) rf_o_told rf_o_spare s_o), (gX7 o_told cB cI cJ cZ (o_told_words 0) (o_told_forms 0) (o_told_paper 0) (o_told_stock 0) s_o_told), (gX1 o_told_forms cB cI cJ cZ s_o_told_forms)]
abbrev rm_X11_form : Room := { frames := 2, cells := 0, slots := 0, locals := 44 }
set_option maxHeartbeats 4000000 in
set_option maxRecDepth 100000 in
theorem c_X11_form (l : Launch) (D : gG) (cB cI cJ cZ : ClassId) (o o_told o_told_forms o_text o_verdict o_trial o_mending o_guess o_choice o_firstImage o_secondImage o_spare o_told_words o_told_paper o_told_stock : Nat → Nat) (s_o : S11) (s_o_told : S7) (s_o_told_forms : S1) (x1 : Int32) (x2 : Int32) (r : Int32) (hf : F_X11_form s_o s_o_told s_o_told_forms x1 x2 = some r) : gM l D (tyL cB cI cJ cZ) yX11_form cX11_form 3 (some .int) rm_X11_form [.ref (o 0), .int x1, .int x2] (w_X11_form o o_told o_told_forms o_text o_verdict o_trial o_mending o_guess o_choice o_firstImage o_secondImage o_spare o_told_words o_told_paper o_told_stock cB cI cJ cZ s_o s_o_told s_o_told_forms (.ref (o_told 0)) (.ref (o_spare 0))) (some (.int r)) (w_X11_form o o_told o_told_forms o_text o_verdict o_trial o_mending o_guess o_choice o_firstImage o_secondImage o_spare o_told_words o_told_paper o_told_stock cB cI cJ cZ s_o s_o_told s_o_told_forms (.ref (o_told 0)) (.ref (o_spare 0))) := by
  refine met_of (by decide) (Nat.le_of_ble_eq_true rfl) ?_
  intro p e s m args below meth c A cx hr hA
  show gW p l e rm_X11_form s m args below meth c D A 3 _ 0 0 _ [(0, .ref (o 0)), (1, .int x1), (2, .int x2)] 0 []
  rw [F_X11_form] at hf
  refine g_aln cx 0 dX11_form_0 rfl ?_
  refine fg_RX11_62 cx 0 rfl rfl dX11_form_1 ?_
  refine fg_RX11_110 cx 1 rfl rfl dX11_form_4 ?_
  refine g_iln cx 1 dX11_form_7 rfl ?_
  refine ob hf (fun q_1 hq_1 hf => ?_)
  refine g_callVGiR cx lk_RX11_114 (c_X1_has l D cB cI cJ cZ o_told_forms s_o_told_forms x1 q_1 hq_1) rfl [2] rfl rfl (ci := 1) (q1 := 0) rfl rfl rfl (Nat.le_of_ble_eq_true rfl) ⟨rfl, rfl, Nat.le_of_ble_eq_true rfl, Nat.le_of_ble_eq_true rfl⟩ dX11_form_8 ?_
  refine g_if_eq (tgt := 24) cx hf dX11_form_11 rfl (fun hf => ?_) (fun hf => ?_)
  · refine g_ic cx dX11_form_24 k_icm1 ?_
    exact g_iret (ovf := fun (r : Int32) => (some (.int r))) (wf := fun (r : Int32) => (w_X11_form o o_told o_told_forms o_text o_verdict o_trial o_mending o_guess o_choice o_firstImage o_secondImage o_spare o_told_words o_told_paper o_told_stock cB cI cJ cZ s_o s_o_told s_o_told_forms (.ref (o_told 0)) (.ref (o_spare 0)))) cx hA hr hf rfl rfl dX11_form_25
  · refine g_iln cx 2 dX11_form_14 rfl ?_
    refine g_if_lt (tgt := 24) cx hf dX11_form_15 rfl (fun hf => ?_) (fun hf => ?_)
    · refine g_ic cx dX11_form_24 k_icm1 ?_
      exact g_iret (ovf := fun (r : Int32) => (some (.int r))) (wf := fun (r : Int32) => (w_X11_form o o_told o_told_forms o_text o_verdict o_trial o_mending o_guess o_choice o_firstImage o_secondImage o_spare o_told_words o_told_paper o_told_stock cB cI cJ cZ s_o s_o_told s_o_told_forms (.ref (o_told 0)) (.ref (o_spare 0)))) cx hA hr hf rfl rfl dX11_form_25
    · refine g_iln cx 2 dX11_form_18 rfl ?_
      refine g_bp cx dX11_form_19 k_bp99 ?_
      refine g_ic_le (tgt := 26) cx hf dX11_form_21 rfl (fun hf => ?_) (fun hf => ?_)
      · refine g_aln cx 0 dX11_form_26 rfl ?_
        refine fg_RX11_62 cx 0 rfl rfl dX11_form_27 ?_
        refine fg_RX11_110 cx 1 rfl rfl dX11_form_30 ?_
        refine g_iln cx 1 dX11_form_33 rfl ?_
        refine g_iln cx 2 dX11_form_34 rfl ?_
        refine ob hf (fun q_2 hq_2 hf => ?_)
        refine g_callVGiR cx lk_RX11_117 (c_X1_letter l D cB cI cJ cZ o_told_forms s_o_told_forms x1 x2 q_2 hq_2) rfl [2] rfl rfl (ci := 1) (q1 := 0) rfl rfl rfl (Nat.le_of_ble_eq_true rfl) ⟨rfl, rfl, Nat.le_of_ble_eq_true rfl, Nat.le_of_ble_eq_true rfl⟩ dX11_form_35 ?_
        exact g_iret (ovf := fun (r : Int32) => (some (.int r))) (wf := fun (r : Int32) => (w_X11_form o o_told o_told_forms o_text o_verdict o_trial o_mending o_guess o_choice o_firstImage o_secondImage o_spare o_told_words o_told_paper o_told_stock cB cI cJ cZ s_o s_o_told s_o_told_forms (.ref (o_told 0)) (.ref (o_spare 0)))) cx hA hr hf rfl rfl dX11_form_38
      · refine g_ic cx dX11_form_24 k_icm1 ?_
        exact g_iret (ovf := fun (r : Int32) => (some (.int r))) (wf := fun (r : Int32) => (w_X11_form o o_told o_told_forms o_text o_verdict o_trial o_mending o_guess o_choice o_firstImage o_secondImage o_spare o_told_words o_told_paper o_told_stock cB cI cJ cZ s_o s_o_told s_o_told_forms (.ref (o_told 0)) (.ref (o_spare 0)))) cx hA hr hf rfl rfl dX11_form_25
theorem dX11_metre_0 : decode cX11_metre 0 = .ok (.iload_n 1, 1) := by decide +kernel
theorem dX11_metre_1 : decode cX11_metre 1 = .ok (.ifCond .lt 19, 3) := by decide +kernel
theorem dX11_metre_4 : decode cX11_metre 4 = .ok (.iload_n 1, 1) := by decide +kernel
theorem dX11_metre_5 : decode cX11_metre 5 = .ok (.bipush 8, 2) := by decide +kernel
theorem dX11_metre_7 : decode cX11_metre 7 = .ok (.if_icmp .ge 13, 3) := by decide +kernel
theorem dX11_metre_10 : decode cX11_metre 10 = .ok (.iload_n 2, 1) := by decide +kernel
theorem dX11_metre_11 : decode cX11_metre 11 = .ok (.ifCond .lt 9, 3) := by decide +kernel
theorem dX11_metre_14 : decode cX11_metre 14 = .ok (.iload_n 2, 1) := by decide +kernel
theorem dX11_metre_15 : decode cX11_metre 15 = .ok (.bipush 20, 2) := by decide +kernel
theorem dX11_metre_17 : decode cX11_metre 17 = .ok (.if_icmp .le 5, 3) := by decide +kernel
theorem dX11_metre_20 : decode cX11_metre 20 = .ok (.iconst (-1), 1) := by decide +kernel
theorem dX11_metre_21 : decode cX11_metre 21 = .ok (.ireturn, 1) := by decide +kernel
theorem dX11_metre_22 : decode cX11_metre 22 = .ok (.aload_n 0, 1) := by decide +kernel
theorem dX11_metre_23 : decode cX11_metre 23 = .ok (.getfield 62, 3) := by decide +kernel
theorem dX11_metre_26 : decode cX11_metre 26 = .ok (.iload_n 1, 1) := by decide +kernel
theorem dX11_metre_27 : decode cX11_metre 27 = .ok (.invokevirtual 120, 3) := by decide +kernel
theorem dX11_metre_30 : decode cX11_metre 30 = .ok (.istore_n 3, 1) := by decide +kernel
theorem dX11_metre_31 : decode cX11_metre 31 = .ok (.aload_n 0, 1) := by decide +kernel
theorem dX11_metre_32 : decode cX11_metre 32 = .ok (.getfield 62, 3) := by decide +kernel
theorem dX11_metre_35 : decode cX11_metre 35 = .ok (.iload_n 1, 1) := by decide +kernel
theorem dX11_metre_36 : decode cX11_metre 36 = .ok (.iload_n 2, 1) := by decide +kernel
theorem dX11_metre_37 : decode cX11_metre 37 = .ok (.invokevirtual 123, 3) := by decide +kernel
theorem dX11_metre_40 : decode cX11_metre 40 = .ok (.iload_n 3, 1) := by decide +kernel
theorem dX11_metre_41 : decode cX11_metre 41 = .ok (.ireturn, 1) := by decide +kernel
theorem q3_60 : Cond.methodLink RX11 120 yX7_metreOf ∈ TT := tq3 60 rfl rfl
theorem q3_65 : Cond.methodLink RX11 123 yX7_setMetre ∈ TT := tq3 65 rfl rfl
theorem lk_RX11_120 : vlk RX11 120 yX7_metreOf cX7_metreOf 2 (some .int) 1 := ⟨List.forall_mem_cons.mpr ⟨q3_60, List.forall_mem_cons.mpr ⟨q3_61, List.forall_mem_cons.mpr ⟨q3_62, List.forall_mem_cons.mpr ⟨q1_9, fun _ h => absurd h List.not_mem_nil⟩⟩⟩⟩, q3_63, by decide, by decide, by decide +kernel⟩
theorem lk_RX11_123 : vlk RX11 123 yX7_setMetre cX7_setMetre 3 none 2 := ⟨List.forall_mem_cons.mpr ⟨q3_65, List.forall_mem_cons.mpr ⟨q2_214, List.forall_mem_cons.mpr ⟨q2_215, List.forall_mem_cons.mpr ⟨q1_9, fun _ h => absurd h List.not_mem_nil⟩⟩⟩⟩, q2_216, by decide, by decide, by decide +kernel⟩
def F_X11_metre (s_o : S11) (s_o_told : S7) (x1 : Int32) (x2 : Int32) : Option (Int32 × S7) := (if x1 < 0 then some ((-1), s_o_told) else (if 8 ≤ x1 then some ((-1), s_o_told) else (if x2 < 0 then some ((-1), s_o_told) else (if x2 ≤ 20 then (F_X7_metreOf s_o_told x1).bind fun q_1 => nm q_1 fun v3_2 => (F_X7_setMetre s_o_told x1 x2).bind fun q_3 => some (v3_2, q_3) else some ((-1), s_o_told)))))
def w_X11_metre (o o_told o_text o_verdict o_trial o_mending o_guess o_choice o_firstImage o_secondImage o_spare o_told_words o_told_forms o_told_paper o_told_stock : Nat → Nat) (cB cI cJ cZ : ClassId) (s_o : S11) (s_o_told : S7) (rf_o_told : Value) (rf_o_spare : Value) : va_W := List.flatten [(gX11 o cB cI cJ cZ (o_text 0) (o_verdict 0) (o_trial 0) (o_mending 0) (o_guess 0) (o_choice 0) (o_firstImage 0) (o_secondImage 0) rf_o_told rf_o_spare s_o), (gX7 o_told cB cI cJ cZ (o_told_words 0) (o_told_forms 0) (o_told_paper 0) (o_told_stock 0) s_o_told)]
abbrev rm_X11_metre : Room := { frames := 2, cells := 0, slots := 0, locals := 44 }
set_option maxHeartbeats 4000000 in
set_option maxRecDepth 100000 in
theorem c_X11_metre (l : Launch) (D : gG) (cB cI cJ cZ : ClassId) (o o_told o_text o_verdict o_trial o_mending o_guess o_choice o_firstImage o_secondImage o_spare o_told_words o_told_forms o_told_paper o_told_stock : Nat → Nat) (s_o : S11) (s_o_told : S7) (x1 : Int32) (x2 : Int32) (r : Int32 × S7) (hf : F_X11_metre s_o s_o_told x1 x2 = some r) : gM l D (tyL cB cI cJ cZ) yX11_metre cX11_metre 4 (some .int) rm_X11_metre [.ref (o 0), .int x1, .int x2] (w_X11_metre o o_told o_text o_verdict o_trial o_mending o_guess o_choice o_firstImage o_secondImage o_spare o_told_words o_told_forms o_told_paper o_told_stock cB cI cJ cZ s_o s_o_told (.ref (o_told 0)) (.ref (o_spare 0))) (some (.int r.1)) (w_X11_metre o o_told o_text o_verdict o_trial o_mending o_guess o_choice o_firstImage o_secondImage o_spare o_told_words o_told_forms o_told_paper o_told_stock cB cI cJ cZ s_o r.2 (.ref (o_told 0)) (.ref (o_spare 0))) := by
  refine met_of (by decide) (Nat.le_of_ble_eq_true rfl) ?_
  intro p e s m args below meth c A cx hr hA
  show gW p l e rm_X11_metre s m args below meth c D A 4 _ 0 0 _ [(0, .ref (o 0)), (1, .int x1), (2, .int x2)] 0 []
  rw [F_X11_metre] at hf
  refine g_iln cx 1 dX11_metre_0 rfl ?_
  refine g_if_lt (tgt := 20) cx hf dX11_metre_1 rfl (fun hf => ?_) (fun hf => ?_)
  · refine g_ic cx dX11_metre_20 k_icm1 ?_
    exact g_iret (ovf := fun (r : Int32 × S7) => (some (.int r.1))) (wf := fun (r : Int32 × S7) => (w_X11_metre o o_told o_text o_verdict o_trial o_mending o_guess o_choice o_firstImage o_secondImage o_spare o_told_words o_told_forms o_told_paper o_told_stock cB cI cJ cZ s_o r.2 (.ref (o_told 0)) (.ref (o_spare 0)))) cx hA hr hf rfl rfl dX11_metre_21
  · refine g_iln cx 1 dX11_metre_4 rfl ?_
    refine g_bp cx dX11_metre_5 k_bp8 ?_
    refine g_ic_ge (tgt := 20) cx hf dX11_metre_7 rfl (fun hf => ?_) (fun hf => ?_)
    · refine g_ic cx dX11_metre_20 k_icm1 ?_
      exact g_iret (ovf := fun (r : Int32 × S7) => (some (.int r.1))) (wf := fun (r : Int32 × S7) => (w_X11_metre o o_told o_text o_verdict o_trial o_mending o_guess o_choice o_firstImage o_secondImage o_spare o_told_words o_told_forms o_told_paper o_told_stock cB cI cJ cZ s_o r.2 (.ref (o_told 0)) (.ref (o_spare 0)))) cx hA hr hf rfl rfl dX11_metre_21
    · refine g_iln cx 2 dX11_metre_10 rfl ?_
      refine g_if_lt (tgt := 20) cx hf dX11_metre_11 rfl (fun hf => ?_) (fun hf => ?_)
      · refine g_ic cx dX11_metre_20 k_icm1 ?_
        exact g_iret (ovf := fun (r : Int32 × S7) => (some (.int r.1))) (wf := fun (r : Int32 × S7) => (w_X11_metre o o_told o_text o_verdict o_trial o_mending o_guess o_choice o_firstImage o_secondImage o_spare o_told_words o_told_forms o_told_paper o_told_stock cB cI cJ cZ s_o r.2 (.ref (o_told 0)) (.ref (o_spare 0)))) cx hA hr hf rfl rfl dX11_metre_21
      · refine g_iln cx 2 dX11_metre_14 rfl ?_
        refine g_bp cx dX11_metre_15 k_bp20 ?_
        refine g_ic_le (tgt := 22) cx hf dX11_metre_17 rfl (fun hf => ?_) (fun hf => ?_)
        · refine g_aln cx 0 dX11_metre_22 rfl ?_
          refine fg_RX11_62 cx 0 rfl rfl dX11_metre_23 ?_
          refine g_iln cx 1 dX11_metre_26 rfl ?_
          refine ob hf (fun q_1 hq_1 hf => ?_)
          refine g_callVGiR cx lk_RX11_120 (c_X7_metreOf l D cB cI cJ cZ o_told o_told_words o_told_forms o_told_paper o_told_stock s_o_told x1 q_1 hq_1) rfl [1] rfl rfl (ci := 5) (q1 := 0) rfl rfl rfl (Nat.le_of_ble_eq_true rfl) ⟨rfl, rfl, Nat.le_of_ble_eq_true rfl, Nat.le_of_ble_eq_true rfl⟩ dX11_metre_27 ?_
          refine g_isn cx (L2 := fun v3_2 => [(3, .int v3_2), (0, .ref (o 0)), (1, .int x1), (2, .int x2)]) hf dX11_metre_30 (Nat.le_of_ble_eq_true rfl) (fun _ => rfl) (fun v3_2 hf => ?_)
          refine g_aln cx 1 dX11_metre_31 rfl ?_
          refine fg_RX11_62 cx 0 rfl rfl dX11_metre_32 ?_
          refine g_iln cx 2 dX11_metre_35 rfl ?_
          refine g_iln cx 3 dX11_metre_36 rfl ?_
          refine ob hf (fun q_3 hq_3 hf => ?_)
          refine g_callVGv (gs' := [(gX11 o cB cI cJ cZ (o_text 0) (o_verdict 0) (o_trial 0) (o_mending 0) (o_guess 0) (o_choice 0) (o_firstImage 0) (o_secondImage 0) (.ref (o_told 0)) (.ref (o_spare 0)) s_o), (gX7 o_told cB cI cJ cZ (o_told_words 0) (o_told_forms 0) (o_told_paper 0) (o_told_stock 0) q_3)]) cx lk_RX11_123 (c_X7_setMetre l D cB cI cJ cZ o_told o_told_words o_told_forms o_told_paper o_told_stock s_o_told x1 x2 q_3 hq_3) rfl [1] rfl rfl rfl rfl (ci := 5) (q1 := 0) rfl rfl rfl (Nat.le_of_ble_eq_true rfl) ⟨rfl, rfl, Nat.le_of_ble_eq_true rfl, Nat.le_of_ble_eq_true rfl⟩ dX11_metre_37 ?_
          refine g_iln cx 0 dX11_metre_40 rfl ?_
          exact g_iret (ovf := fun (r : Int32 × S7) => (some (.int r.1))) (wf := fun (r : Int32 × S7) => (w_X11_metre o o_told o_text o_verdict o_trial o_mending o_guess o_choice o_firstImage o_secondImage o_spare o_told_words o_told_forms o_told_paper o_told_stock cB cI cJ cZ s_o r.2 (.ref (o_told 0)) (.ref (o_spare 0)))) cx hA hr hf rfl rfl dX11_metre_41
        · refine g_ic cx dX11_metre_20 k_icm1 ?_
          exact g_iret (ovf := fun (r : Int32 × S7) => (some (.int r.1))) (wf := fun (r : Int32 × S7) => (w_X11_metre o o_told o_text o_verdict o_trial o_mending o_guess o_choice o_firstImage o_secondImage o_spare o_told_words o_told_forms o_told_paper o_told_stock cB cI cJ cZ s_o r.2 (.ref (o_told 0)) (.ref (o_spare 0)))) cx hA hr hf rfl rfl dX11_metre_21
theorem dX11_line_0 : decode cX11_line 0 = .ok (.aload_n 0, 1) := by decide +kernel
theorem dX11_line_1 : decode cX11_line 1 = .ok (.getfield 62, 3) := by decide +kernel
theorem dX11_line_4 : decode cX11_line 4 = .ok (.getfield 127, 3) := by decide +kernel
theorem dX11_line_7 : decode cX11_line 7 = .ok (.iload_n 1, 1) := by decide +kernel
theorem dX11_line_8 : decode cX11_line 8 = .ok (.iload_n 2, 1) := by decide +kernel
theorem dX11_line_9 : decode cX11_line 9 = .ok (.invokevirtual 130, 3) := by decide +kernel
theorem dX11_line_12 : decode cX11_line 12 = .ok (.ireturn, 1) := by decide +kernel
theorem q1_215 : Cond.fieldLink RX11 127 "RhymeLaw$Tale" "paper" "LRhymeLaw$Paper;" ∈ TT := tq1 215 rfl rfl
theorem q3_70 : Cond.methodLink RX11 130 yX4_part ∈ TT := tq3 70 rfl rfl
theorem q3_71 : Cond.instanceMethod yX4_part ∈ TT := tq3 71 rfl rfl
theorem q3_72 : Cond.selects RX4 yX4_part yX4_part ∈ TT := tq3 72 rfl rfl
theorem q3_73 : Cond.code yX4_part cX4_part 3 (some .int) ∈ TT := tq3 73 rfl rfl
theorem fg_RX11_127 {p : Program} {l : Launch} {e : Env} {R : Room} {s : State} {m : MethodId} {args : Array Value} {below : List Frame} {meth : Method} {c : Code} {D : gG} {tys : List (ClassId × FieldType)} {A : Nat → Prop} {nL : Nat} {Q : State → Prop} {cells slots : Nat} {cc : ByteArray} {ws : va_W} {L : List (Nat × Value)} {pc : Nat} {stk : List Value} (cx : gX p s m args meth c cc nL RX11 D tys A) {a : Nat} {fs : List Value} {v : Value} (q0 : Nat) (he : ws[q0]? = some (a, .inr (5, fs))) (hv : fs[2]? = some v) (hd : decode cc pc = .ok (.getfield 127, 3)) (kk : gW p l e R s m args below meth c D A nL Q cells slots ws L (pc + 3) (v :: stk)) : gW p l e R s m args below meth c D A nL Q cells slots ws L pc (.ref a :: stk) :=
  g_get cx (C := RX7) (T := TX7) (N := 5) inT7 rfl 2 (Nat.le_of_ble_eq_true rfl) q1_215 rfl q0 he hv hd kk
theorem lk_RX11_130 : vlk RX11 130 yX4_part cX4_part 3 (some .int) 2 := ⟨List.forall_mem_cons.mpr ⟨q3_70, List.forall_mem_cons.mpr ⟨q3_71, List.forall_mem_cons.mpr ⟨q3_72, List.forall_mem_cons.mpr ⟨q1_4, fun _ h => absurd h List.not_mem_nil⟩⟩⟩⟩, q3_73, by decide, by decide, by decide +kernel⟩
def F_X11_line (s_o : S11) (s_o_told : S7) (s_o_told_paper : S4) (x1 : Int32) (x2 : Int32) : Option (Int32) := (F_X4_part s_o_told_paper x1 x2).bind fun q_1 => some (q_1)
def w_X11_line (o o_told o_told_paper o_text o_verdict o_trial o_mending o_guess o_choice o_firstImage o_secondImage o_spare o_told_words o_told_forms o_told_stock : Nat → Nat) (cB cI cJ cZ : ClassId) (s_o : S11) (s_o_told : S7) (s_o_told_paper : S4) (rf_o_told : Value) (rf_o_spare : Value) : va_W := List.flatten [(gX11 o cB cI cJ cZ (o_text 0) (o_verdict 0) (o_trial 0) (o_mending 0) (o_guess 0) (o_choice 0) (o_firstImage 0) (o_secondImage 0) rf_o_told rf_o_spare s_o), (gX7 o_told cB cI cJ cZ (o_told_words 0) (o_told_forms 0) (o_told_paper 0) (o_told_stock 0) s_o_told), (gX4 o_told_paper cB cI cJ cZ s_o_told_paper)]
abbrev rm_X11_line : Room := { frames := 3, cells := 0, slots := 0, locals := 64 }
set_option maxHeartbeats 4000000 in
set_option maxRecDepth 100000 in
theorem c_X11_line (l : Launch) (D : gG) (cB cI cJ cZ : ClassId) (o o_told o_told_paper o_text o_verdict o_trial o_mending o_guess o_choice o_firstImage o_secondImage o_spare o_told_words o_told_forms o_told_stock : Nat → Nat) (s_o : S11) (s_o_told : S7) (s_o_told_paper : S4) (x1 : Int32) (x2 : Int32) (r : Int32) (hf : F_X11_line s_o s_o_told s_o_told_paper x1 x2 = some r) : gM l D (tyL cB cI cJ cZ) yX11_line cX11_line 3 (some .int) rm_X11_line [.ref (o 0), .int x1, .int x2] (w_X11_line o o_told o_told_paper o_text o_verdict o_trial o_mending o_guess o_choice o_firstImage o_secondImage o_spare o_told_words o_told_forms o_told_stock cB cI cJ cZ s_o s_o_told s_o_told_paper (.ref (o_told 0)) (.ref (o_spare 0))) (some (.int r)) (w_X11_line o o_told o_told_paper o_text o_verdict o_trial o_mending o_guess o_choice o_firstImage o_secondImage o_spare o_told_words o_told_forms o_told_stock cB cI cJ cZ s_o s_o_told s_o_told_paper (.ref (o_told 0)) (.ref (o_spare 0))) := by
  refine met_of (by decide) (Nat.le_of_ble_eq_true rfl) ?_
  intro p e s m args below meth c A cx hr hA
  show gW p l e rm_X11_line s m args below meth c D A 3 _ 0 0 _ [(0, .ref (o 0)), (1, .int x1), (2, .int x2)] 0 []
  rw [F_X11_line] at hf
  refine g_aln cx 0 dX11_line_0 rfl ?_
  refine fg_RX11_62 cx 0 rfl rfl dX11_line_1 ?_
  refine fg_RX11_127 cx 1 rfl rfl dX11_line_4 ?_
  refine g_iln cx 1 dX11_line_7 rfl ?_
  refine g_iln cx 2 dX11_line_8 rfl ?_
  refine ob hf (fun q_1 hq_1 hf => ?_)
  refine g_callVGiR cx lk_RX11_130 (c_X4_part l D cB cI cJ cZ o_told_paper s_o_told_paper x1 x2 q_1 hq_1) rfl [2] rfl rfl (ci := 4) (q1 := 0) rfl rfl rfl (Nat.le_of_ble_eq_true rfl) ⟨rfl, rfl, Nat.le_of_ble_eq_true rfl, Nat.le_of_ble_eq_true rfl⟩ dX11_line_9 ?_
  exact g_iret (ovf := fun (r : Int32) => (some (.int r))) (wf := fun (r : Int32) => (w_X11_line o o_told o_told_paper o_text o_verdict o_trial o_mending o_guess o_choice o_firstImage o_secondImage o_spare o_told_words o_told_forms o_told_stock cB cI cJ cZ s_o s_o_told s_o_told_paper (.ref (o_told 0)) (.ref (o_spare 0)))) cx hA hr hf rfl rfl dX11_line_12
theorem dX11_stock_0 : decode cX11_stock 0 = .ok (.aload_n 0, 1) := by decide +kernel
theorem dX11_stock_1 : decode cX11_stock 1 = .ok (.getfield 62, 3) := by decide +kernel
theorem dX11_stock_4 : decode cX11_stock 4 = .ok (.getfield 133, 3) := by decide +kernel
theorem dX11_stock_7 : decode cX11_stock 7 = .ok (.iload_n 1, 1) := by decide +kernel
theorem dX11_stock_8 : decode cX11_stock 8 = .ok (.iload_n 2, 1) := by decide +kernel
theorem dX11_stock_9 : decode cX11_stock 9 = .ok (.invokevirtual 130, 3) := by decide +kernel
theorem dX11_stock_12 : decode cX11_stock 12 = .ok (.ireturn, 1) := by decide +kernel
theorem q1_219 : Cond.fieldLink RX11 133 "RhymeLaw$Tale" "stock" "LRhymeLaw$Paper;" ∈ TT := tq1 219 rfl rfl
theorem fg_RX11_133 {p : Program} {l : Launch} {e : Env} {R : Room} {s : State} {m : MethodId} {args : Array Value} {below : List Frame} {meth : Method} {c : Code} {D : gG} {tys : List (ClassId × FieldType)} {A : Nat → Prop} {nL : Nat} {Q : State → Prop} {cells slots : Nat} {cc : ByteArray} {ws : va_W} {L : List (Nat × Value)} {pc : Nat} {stk : List Value} (cx : gX p s m args meth c cc nL RX11 D tys A) {a : Nat} {fs : List Value} {v : Value} (q0 : Nat) (he : ws[q0]? = some (a, .inr (5, fs))) (hv : fs[3]? = some v) (hd : decode cc pc = .ok (.getfield 133, 3)) (kk : gW p l e R s m args below meth c D A nL Q cells slots ws L (pc + 3) (v :: stk)) : gW p l e R s m args below meth c D A nL Q cells slots ws L pc (.ref a :: stk) :=
  g_get cx (C := RX7) (T := TX7) (N := 5) inT7 rfl 3 (Nat.le_of_ble_eq_true rfl) q1_219 rfl q0 he hv hd kk
def F_X11_stock (s_o : S11) (s_o_told : S7) (s_o_told_stock : S4) (x1 : Int32) (x2 : Int32) : Option (Int32) := (F_X4_part s_o_told_stock x1 x2).bind fun q_1 => some (q_1)
def w_X11_stock (o o_told o_told_stock o_text o_verdict o_trial o_mending o_guess o_choice o_firstImage o_secondImage o_spare o_told_words o_told_forms o_told_paper : Nat → Nat) (cB cI cJ cZ : ClassId) (s_o : S11) (s_o_told : S7) (s_o_told_stock : S4) (rf_o_told : Value) (rf_o_spare : Value) : va_W := List.flatten [(gX11 o cB cI cJ cZ (o_text 0) (o_verdict 0) (o_trial 0) (o_mending 0) (o_guess 0) (o_choice 0) (o_firstImage 0) (o_secondImage 0) rf_o_told rf_o_spare s_o), (gX7 o_told cB cI cJ cZ (o_told_words 0) (o_told_forms 0) (o_told_paper 0) (o_told_stock 0) s_o_told), (gX4 o_told_stock cB cI cJ cZ s_o_told_stock)]
abbrev rm_X11_stock : Room := { frames := 3, cells := 0, slots := 0, locals := 64 }
set_option maxHeartbeats 4000000 in
set_option maxRecDepth 100000 in
theorem c_X11_stock (l : Launch) (D : gG) (cB cI cJ cZ : ClassId) (o o_told o_told_stock o_text o_verdict o_trial o_mending o_guess o_choice o_firstImage o_secondImage o_spare o_told_words o_told_forms o_told_paper : Nat → Nat) (s_o : S11) (s_o_told : S7) (s_o_told_stock : S4) (x1 : Int32) (x2 : Int32) (r : Int32) (hf : F_X11_stock s_o s_o_told s_o_told_stock x1 x2 = some r) : gM l D (tyL cB cI cJ cZ) yX11_stock cX11_stock 3 (some .int) rm_X11_stock [.ref (o 0), .int x1, .int x2] (w_X11_stock o o_told o_told_stock o_text o_verdict o_trial o_mending o_guess o_choice o_firstImage o_secondImage o_spare o_told_words o_told_forms o_told_paper cB cI cJ cZ s_o s_o_told s_o_told_stock (.ref (o_told 0)) (.ref (o_spare 0))) (some (.int r)) (w_X11_stock o o_told o_told_stock o_text o_verdict o_trial o_mending o_guess o_choice o_firstImage o_secondImage o_spare o_told_words o_told_forms o_told_paper cB cI cJ cZ s_o s_o_told s_o_told_stock (.ref (o_told 0)) (.ref (o_spare 0))) := by
  refine met_of (by decide) (Nat.le_of_ble_eq_true rfl) ?_
  intro p e s m args below meth c A cx hr hA
  show gW p l e rm_X11_stock s m args below meth c D A 3 _ 0 0 _ [(0, .ref (o 0)), (1, .int x1), (2, .int x2)] 0 []
  rw [F_X11_stock] at hf
  refine g_aln cx 0 dX11_stock_0 rfl ?_
  refine fg_RX11_62 cx 0 rfl rfl dX11_stock_1 ?_
  refine fg_RX11_133 cx 1 rfl rfl dX11_stock_4 ?_
  refine g_iln cx 1 dX11_stock_7 rfl ?_
  refine g_iln cx 2 dX11_stock_8 rfl ?_
  refine ob hf (fun q_1 hq_1 hf => ?_)
  refine g_callVGiR cx lk_RX11_130 (c_X4_part l D cB cI cJ cZ o_told_stock s_o_told_stock x1 x2 q_1 hq_1) rfl [2] rfl rfl (ci := 4) (q1 := 0) rfl rfl rfl (Nat.le_of_ble_eq_true rfl) ⟨rfl, rfl, Nat.le_of_ble_eq_true rfl, Nat.le_of_ble_eq_true rfl⟩ dX11_stock_9 ?_
  exact g_iret (ovf := fun (r : Int32) => (some (.int r))) (wf := fun (r : Int32) => (w_X11_stock o o_told o_told_stock o_text o_verdict o_trial o_mending o_guess o_choice o_firstImage o_secondImage o_spare o_told_words o_told_forms o_told_paper cB cI cJ cZ s_o s_o_told s_o_told_stock (.ref (o_told 0)) (.ref (o_spare 0)))) cx hA hr hf rfl rfl dX11_stock_12
theorem dX11_put_0 : decode cX11_put 0 = .ok (.iload_n 1, 1) := by decide +kernel
theorem dX11_put_1 : decode cX11_put 1 = .ok (.ifCond .lt 53, 3) := by decide +kernel
theorem dX11_put_4 : decode cX11_put 4 = .ok (.iload_n 1, 1) := by decide +kernel
theorem dX11_put_5 : decode cX11_put 5 = .ok (.aload_n 0, 1) := by decide +kernel
theorem dX11_put_6 : decode cX11_put 6 = .ok (.getfield 62, 3) := by decide +kernel
theorem dX11_put_9 : decode cX11_put 9 = .ok (.getfield 127, 3) := by decide +kernel
theorem dX11_put_12 : decode cX11_put 12 = .ok (.invokevirtual 136, 3) := by decide +kernel
theorem dX11_put_15 : decode cX11_put 15 = .ok (.if_icmp .gt 39, 3) := by decide +kernel
theorem dX11_put_18 : decode cX11_put 18 = .ok (.aload_n 0, 1) := by decide +kernel
theorem dX11_put_19 : decode cX11_put 19 = .ok (.getfield 62, 3) := by decide +kernel
theorem dX11_put_22 : decode cX11_put 22 = .ok (.getfield 89, 3) := by decide +kernel
theorem dX11_put_25 : decode cX11_put 25 = .ok (.iload_n 2, 1) := by decide +kernel
theorem dX11_put_26 : decode cX11_put 26 = .ok (.invokevirtual 93, 3) := by decide +kernel
theorem dX11_put_29 : decode cX11_put 29 = .ok (.ifCond .eq 25, 3) := by decide +kernel
theorem dX11_put_32 : decode cX11_put 32 = .ok (.iload_n 3, 1) := by decide +kernel
theorem dX11_put_33 : decode cX11_put 33 = .ok (.ifCond .lt 21, 3) := by decide +kernel
theorem dX11_put_36 : decode cX11_put 36 = .ok (.iload_n 3, 1) := by decide +kernel
theorem dX11_put_37 : decode cX11_put 37 = .ok (.bipush 9, 2) := by decide +kernel
theorem dX11_put_39 : decode cX11_put 39 = .ok (.if_icmp .gt 15, 3) := by decide +kernel
theorem dX11_put_42 : decode cX11_put 42 = .ok (.iload 4, 2) := by decide +kernel
theorem dX11_put_44 : decode cX11_put 44 = .ok (.ifCond .lt 10, 3) := by decide +kernel
theorem dX11_put_47 : decode cX11_put 47 = .ok (.iload 4, 2) := by decide +kernel
theorem dX11_put_49 : decode cX11_put 49 = .ok (.bipush 16, 2) := by decide +kernel
theorem dX11_put_51 : decode cX11_put 51 = .ok (.if_icmp .le 5, 3) := by decide +kernel
theorem dX11_put_54 : decode cX11_put 54 = .ok (.iconst (-1), 1) := by decide +kernel
theorem dX11_put_55 : decode cX11_put 55 = .ok (.ireturn, 1) := by decide +kernel
theorem dX11_put_56 : decode cX11_put 56 = .ok (.aload_n 0, 1) := by decide +kernel
theorem dX11_put_57 : decode cX11_put 57 = .ok (.getfield 62, 3) := by decide +kernel
theorem dX11_put_60 : decode cX11_put 60 = .ok (.getfield 127, 3) := by decide +kernel
theorem dX11_put_63 : decode cX11_put 63 = .ok (.invokevirtual 139, 3) := by decide +kernel
theorem dX11_put_66 : decode cX11_put 66 = .ok (.ifCond .eq 6, 3) := by decide +kernel
theorem dX11_put_69 : decode cX11_put 69 = .ok (.bipush (-3), 2) := by decide +kernel
theorem dX11_put_71 : decode cX11_put 71 = .ok (.ireturn, 1) := by decide +kernel
theorem dX11_put_72 : decode cX11_put 72 = .ok (.aload_n 0, 1) := by decide +kernel
theorem dX11_put_73 : decode cX11_put 73 = .ok (.getfield 62, 3) := by decide +kernel
theorem dX11_put_76 : decode cX11_put 76 = .ok (.getfield 127, 3) := by decide +kernel
theorem dX11_put_79 : decode cX11_put 79 = .ok (.iload_n 1, 1) := by decide +kernel
theorem dX11_put_80 : decode cX11_put 80 = .ok (.iload_n 2, 1) := by decide +kernel
theorem dX11_put_81 : decode cX11_put 81 = .ok (.iload_n 3, 1) := by decide +kernel
theorem dX11_put_82 : decode cX11_put 82 = .ok (.iload 4, 2) := by decide +kernel
theorem dX11_put_84 : decode cX11_put 84 = .ok (.invokevirtual 143, 3) := by decide +kernel
theorem dX11_put_87 : decode cX11_put 87 = .ok (.aload_n 0, 1) := by decide +kernel
theorem dX11_put_88 : decode cX11_put 88 = .ok (.getfield 62, 3) := by decide +kernel
theorem dX11_put_91 : decode cX11_put 91 = .ok (.getfield 127, 3) := by decide +kernel
theorem dX11_put_94 : decode cX11_put 94 = .ok (.invokevirtual 136, 3) := by decide +kernel
theorem dX11_put_97 : decode cX11_put 97 = .ok (.ireturn, 1) := by decide +kernel
theorem q3_86 : Cond.methodLink RX11 136 yX4_size ∈ TT := tq3 86 rfl rfl
theorem q3_87 : Cond.methodLink RX11 139 yX4_isFull ∈ TT := tq3 87 rfl rfl
theorem q3_88 : Cond.methodLink RX11 143 yX4_insert ∈ TT := tq3 88 rfl rfl
theorem lk_RX11_136 : vlk RX11 136 yX4_size cX4_size 1 (some .int) 0 := ⟨List.forall_mem_cons.mpr ⟨q3_86, List.forall_mem_cons.mpr ⟨q2_231, List.forall_mem_cons.mpr ⟨q2_232, List.forall_mem_cons.mpr ⟨q1_4, fun _ h => absurd h List.not_mem_nil⟩⟩⟩⟩, q2_233, by decide, by decide, by decide +kernel⟩
theorem lk_RX11_139 : vlk RX11 139 yX4_isFull cX4_isFull 1 (some .boolean) 0 := ⟨List.forall_mem_cons.mpr ⟨q3_87, List.forall_mem_cons.mpr ⟨q2_223, List.forall_mem_cons.mpr ⟨q2_224, List.forall_mem_cons.mpr ⟨q1_4, fun _ h => absurd h List.not_mem_nil⟩⟩⟩⟩, q2_225, by decide, by decide, by decide +kernel⟩
theorem lk_RX11_143 : vlk RX11 143 yX4_insert cX4_insert 6 none 4 := ⟨List.forall_mem_cons.mpr ⟨q3_88, List.forall_mem_cons.mpr ⟨q2_235, List.forall_mem_cons.mpr ⟨q2_236, List.forall_mem_cons.mpr ⟨q1_4, fun _ h => absurd h List.not_mem_nil⟩⟩⟩⟩, q2_237, by decide, by decide, by decide +kernel⟩
def F_X11_put (s_o : S11) (s_o_told : S7) (s_o_told_paper : S4) (s_o_told_words : S10) (x1 : Int32) (x2 : Int32) (x3 : Int32) (x4 : Int32) : Option (Int32 × S4) := (if x1 < 0 then some ((-1), s_o_told_paper) else (F_X4_size s_o_told_paper).bind fun q_1 => (if q_1 < x1 then some ((-1), s_o_told_paper) else (F_X10_has s_o_told_words x2).bind fun q_2 => (if q_2 = 0 then some ((-1), s_o_told_paper) else (if x3 < 0 then some ((-1), s_o_told_paper) else (if 9 < x3 then some ((-1), s_o_told_paper) else (if x4 < 0 then some ((-1), s_o_told_paper) else (if x4 ≤ 16 then (F_X4_isFull s_o_told_paper).bind fun q_3 => (if q_3 = 0 then (F_X4_insert s_o_told_paper x1 x2 x3 x4).bind fun q_4 => (F_X4_size q_4).bind fun q_5 => some (q_5, q_4) else some ((-3), s_o_told_paper)) else some ((-1), s_o_told_paper))))))))
def w_X11_put (o o_told o_told_paper o_told_words o_text o_verdict o_trial o_mending o_guess o_choice o_firstImage o_secondImage o_spare o_told_forms o_told_stock : Nat → Nat) (cB cI cJ cZ : ClassId) (s_o : S11) (s_o_told : S7) (s_o_told_paper : S4) (s_o_told_words : S10) (rf_o_told : Value) (rf_o_spare : Value) : va_W := List.flatten [(gX11 o cB cI cJ cZ (o_text 0) (o_verdict 0) (o_trial 0) (o_mending 0) (o_guess 0) (o_choice 0) (o_firstImage 0) (o_secondImage 0) rf_o_told rf_o_spare s_o), (gX7 o_told cB cI cJ cZ (o_told_words 0) (o_told_forms 0) (o_told_paper 0) (o_told_stock 0) s_o_told), (gX4 o_told_paper cB cI cJ cZ s_o_told_paper), (gX10 o_told_words cB cI cJ cZ s_o_told_words)]
abbrev rm_X11_put : Room := { frames := 3, cells := 0, slots := 0, locals := 71 }
set_option maxHeartbeats 4000000 in
set_option maxRecDepth 100000 in
theorem c_X11_put (l : Launch) (D : gG) (cB cI cJ cZ : ClassId) (o o_told o_told_paper o_told_words o_text o_verdict o_trial o_mending o_guess o_choice o_firstImage o_secondImage o_spare o_told_forms o_told_stock : Nat → Nat) (s_o : S11) (s_o_told : S7) (s_o_told_paper : S4) (s_o_told_words : S10) (x1 : Int32) (x2 : Int32) (x3 : Int32) (x4 : Int32) (r : Int32 × S4) (hf : F_X11_put s_o s_o_told s_o_told_paper s_o_told_words x1 x2 x3 x4 = some r) : gM l D (tyL cB cI cJ cZ) yX11_put cX11_put 5 (some .int) rm_X11_put [.ref (o 0), .int x1, .int x2, .int x3, .int x4] (w_X11_put o o_told o_told_paper o_told_words o_text o_verdict o_trial o_mending o_guess o_choice o_firstImage o_secondImage o_spare o_told_forms o_told_stock cB cI cJ cZ s_o s_o_told s_o_told_paper s_o_told_words (.ref (o_told 0)) (.ref (o_spare 0))) (some (.int r.1)) (w_X11_put o o_told o_told_paper o_told_words o_text o_verdict o_trial o_mending o_guess o_choice o_firstImage o_secondImage o_spare o_told_forms o_told_stock cB cI cJ cZ s_o s_o_told r.2 s_o_told_words (.ref (o_told 0)) (.ref (o_spare 0))) := by
  refine met_of (by decide) (Nat.le_of_ble_eq_true rfl) ?_
  intro p e s m args below meth c A cx hr hA
  show gW p l e rm_X11_put s m args below meth c D A 5 _ 0 0 _ [(0, .ref (o 0)), (1, .int x1), (2, .int x2), (3, .int x3), (4, .int x4)] 0 []
  rw [F_X11_put] at hf
  refine g_iln cx 1 dX11_put_0 rfl ?_
  refine g_if_lt (tgt := 54) cx hf dX11_put_1 rfl (fun hf => ?_) (fun hf => ?_)
  · refine g_ic cx dX11_put_54 k_icm1 ?_
    exact g_iret (ovf := fun (r : Int32 × S4) => (some (.int r.1))) (wf := fun (r : Int32 × S4) => (w_X11_put o o_told o_told_paper o_told_words o_text o_verdict o_trial o_mending o_guess o_choice o_firstImage o_secondImage o_spare o_told_forms o_told_stock cB cI cJ cZ s_o s_o_told r.2 s_o_told_words (.ref (o_told 0)) (.ref (o_spare 0)))) cx hA hr hf rfl rfl dX11_put_55
  · refine g_iln cx 1 dX11_put_4 rfl ?_
    refine g_aln cx 0 dX11_put_5 rfl ?_
    refine fg_RX11_62 cx 0 rfl rfl dX11_put_6 ?_
    refine fg_RX11_127 cx 1 rfl rfl dX11_put_9 ?_
    refine ob hf (fun q_1 hq_1 hf => ?_)
    refine g_callVGiR cx lk_RX11_136 (c_X4_size l D cB cI cJ cZ o_told_paper s_o_told_paper q_1 hq_1) rfl [2] rfl rfl (ci := 4) (q1 := 0) rfl rfl rfl (Nat.le_of_ble_eq_true rfl) ⟨rfl, rfl, Nat.le_of_ble_eq_true rfl, Nat.le_of_ble_eq_true rfl⟩ dX11_put_12 ?_
    refine g_ic_gt (tgt := 54) cx hf dX11_put_15 rfl (fun hf => ?_) (fun hf => ?_)
    · refine g_ic cx dX11_put_54 k_icm1 ?_
      exact g_iret (ovf := fun (r : Int32 × S4) => (some (.int r.1))) (wf := fun (r : Int32 × S4) => (w_X11_put o o_told o_told_paper o_told_words o_text o_verdict o_trial o_mending o_guess o_choice o_firstImage o_secondImage o_spare o_told_forms o_told_stock cB cI cJ cZ s_o s_o_told r.2 s_o_told_words (.ref (o_told 0)) (.ref (o_spare 0)))) cx hA hr hf rfl rfl dX11_put_55
    · refine g_aln cx 0 dX11_put_18 rfl ?_
      refine fg_RX11_62 cx 0 rfl rfl dX11_put_19 ?_
      refine fg_RX11_89 cx 1 rfl rfl dX11_put_22 ?_
      refine g_iln cx 2 dX11_put_25 rfl ?_
      refine ob hf (fun q_2 hq_2 hf => ?_)
      refine g_callVGiR cx lk_RX11_93 (c_X10_has l D cB cI cJ cZ o_told_words s_o_told_words x2 q_2 hq_2) rfl [3] rfl rfl (ci := 8) (q1 := 0) rfl rfl rfl (Nat.le_of_ble_eq_true rfl) ⟨rfl, rfl, Nat.le_of_ble_eq_true rfl, Nat.le_of_ble_eq_true rfl⟩ dX11_put_26 ?_
      refine g_if_eq (tgt := 54) cx hf dX11_put_29 rfl (fun hf => ?_) (fun hf => ?_)
      · refine g_ic cx dX11_put_54 k_icm1 ?_
        exact g_iret (ovf := fun (r : Int32 × S4) => (some (.int r.1))) (wf := fun (r : Int32 × S4) => (w_X11_put o o_told o_told_paper o_told_words o_text o_verdict o_trial o_mending o_guess o_choice o_firstImage o_secondImage o_spare o_told_forms o_told_stock cB cI cJ cZ s_o s_o_told r.2 s_o_told_words (.ref (o_told 0)) (.ref (o_spare 0)))) cx hA hr hf rfl rfl dX11_put_55
      · refine g_iln cx 3 dX11_put_32 rfl ?_
        refine g_if_lt (tgt := 54) cx hf dX11_put_33 rfl (fun hf => ?_) (fun hf => ?_)
        · refine g_ic cx dX11_put_54 k_icm1 ?_
          exact g_iret (ovf := fun (r : Int32 × S4) => (some (.int r.1))) (wf := fun (r : Int32 × S4) => (w_X11_put o o_told o_told_paper o_told_words o_text o_verdict o_trial o_mending o_guess o_choice o_firstImage o_secondImage o_spare o_told_forms o_told_stock cB cI cJ cZ s_o s_o_told r.2 s_o_told_words (.ref (o_told 0)) (.ref (o_spare 0)))) cx hA hr hf rfl rfl dX11_put_55
        · refine g_iln cx 3 dX11_put_36 rfl ?_
          refine g_bp cx dX11_put_37 k_bp9 ?_
          refine g_ic_gt (tgt := 54) cx hf dX11_put_39 rfl (fun hf => ?_) (fun hf => ?_)
          · refine g_ic cx dX11_put_54 k_icm1 ?_
            exact g_iret (ovf := fun (r : Int32 × S4) => (some (.int r.1))) (wf := fun (r : Int32 × S4) => (w_X11_put o o_told o_told_paper o_told_words o_text o_verdict o_trial o_mending o_guess o_choice o_firstImage o_secondImage o_spare o_told_forms o_told_stock cB cI cJ cZ s_o s_o_told r.2 s_o_told_words (.ref (o_told 0)) (.ref (o_spare 0)))) cx hA hr hf rfl rfl dX11_put_55
          · refine g_il cx 4 dX11_put_42 rfl ?_
            refine g_if_lt (tgt := 54) cx hf dX11_put_44 rfl (fun hf => ?_) (fun hf => ?_)
            · refine g_ic cx dX11_put_54 k_icm1 ?_
              exact g_iret (ovf := fun (r : Int32 × S4) => (some (.int r.1))) (wf := fun (r : Int32 × S4) => (w_X11_put o o_told o_told_paper o_told_words o_text o_verdict o_trial o_mending o_guess o_choice o_firstImage o_secondImage o_spare o_told_forms o_told_stock cB cI cJ cZ s_o s_o_told r.2 s_o_told_words (.ref (o_told 0)) (.ref (o_spare 0)))) cx hA hr hf rfl rfl dX11_put_55
            · refine g_il cx 4 dX11_put_47 rfl ?_
              refine g_bp cx dX11_put_49 k_bp16 ?_
              refine g_ic_le (tgt := 56) cx hf dX11_put_51 rfl (fun hf => ?_) (fun hf => ?_)
              · refine g_aln cx 0 dX11_put_56 rfl ?_
                refine fg_RX11_62 cx 0 rfl rfl dX11_put_57 ?_
                refine fg_RX11_127 cx 1 rfl rfl dX11_put_60 ?_
                refine ob hf (fun q_3 hq_3 hf => ?_)
                refine g_callVGiR cx lk_RX11_139 (c_X4_isFull l D cB cI cJ cZ o_told_paper s_o_told_paper q_3 hq_3) rfl [2] rfl rfl (ci := 4) (q1 := 0) rfl rfl rfl (Nat.le_of_ble_eq_true rfl) ⟨rfl, rfl, Nat.le_of_ble_eq_true rfl, Nat.le_of_ble_eq_true rfl⟩ dX11_put_63 ?_
                refine g_if_eq (tgt := 72) cx hf dX11_put_66 rfl (fun hf => ?_) (fun hf => ?_)
                · refine g_aln cx 0 dX11_put_72 rfl ?_
                  refine fg_RX11_62 cx 0 rfl rfl dX11_put_73 ?_
                  refine fg_RX11_127 cx 1 rfl rfl dX11_put_76 ?_
                  refine g_iln cx 1 dX11_put_79 rfl ?_
                  refine g_iln cx 2 dX11_put_80 rfl ?_
                  refine g_iln cx 3 dX11_put_81 rfl ?_
                  refine g_il cx 4 dX11_put_82 rfl ?_
                  refine ob hf (fun q_4 hq_4 hf => ?_)
                  refine g_callVGv (gs' := [(gX11 o cB cI cJ cZ (o_text 0) (o_verdict 0) (o_trial 0) (o_mending 0) (o_guess 0) (o_choice 0) (o_firstImage 0) (o_secondImage 0) (.ref (o_told 0)) (.ref (o_spare 0)) s_o), (gX7 o_told cB cI cJ cZ (o_told_words 0) (o_told_forms 0) (o_told_paper 0) (o_told_stock 0) s_o_told), (gX4 o_told_paper cB cI cJ cZ q_4), (gX10 o_told_words cB cI cJ cZ s_o_told_words)]) cx lk_RX11_143 (c_X4_insert l D cB cI cJ cZ o_told_paper s_o_told_paper x1 x2 x3 x4 q_4 hq_4) rfl [2] rfl rfl rfl rfl (ci := 4) (q1 := 0) rfl rfl rfl (Nat.le_of_ble_eq_true rfl) ⟨rfl, rfl, Nat.le_of_ble_eq_true rfl, Nat.le_of_ble_eq_true rfl⟩ dX11_put_84 ?_
                  refine g_aln cx 0 dX11_put_87 rfl ?_
                  refine fg_RX11_62 cx 0 rfl rfl dX11_put_88 ?_
                  refine fg_RX11_127 cx 1 rfl rfl dX11_put_91 ?_
                  refine ob hf (fun q_5 hq_5 hf => ?_)
                  refine g_callVGiR cx lk_RX11_136 (c_X4_size l D cB cI cJ cZ o_told_paper q_4 q_5 hq_5) rfl [2] rfl rfl (ci := 4) (q1 := 0) rfl rfl rfl (Nat.le_of_ble_eq_true rfl) ⟨rfl, rfl, Nat.le_of_ble_eq_true rfl, Nat.le_of_ble_eq_true rfl⟩ dX11_put_94 ?_
                  exact g_iret (ovf := fun (r : Int32 × S4) => (some (.int r.1))) (wf := fun (r : Int32 × S4) => (w_X11_put o o_told o_told_paper o_told_words o_text o_verdict o_trial o_mending o_guess o_choice o_firstImage o_secondImage o_spare o_told_forms o_told_stock cB cI cJ cZ s_o s_o_told r.2 s_o_told_words (.ref (o_told 0)) (.ref (o_spare 0)))) cx hA hr hf rfl rfl dX11_put_97
                · refine g_bp cx dX11_put_69 k_bpm3 ?_
                  exact g_iret (ovf := fun (r : Int32 × S4) => (some (.int r.1))) (wf := fun (r : Int32 × S4) => (w_X11_put o o_told o_told_paper o_told_words o_text o_verdict o_trial o_mending o_guess o_choice o_firstImage o_secondImage o_spare o_told_forms o_told_stock cB cI cJ cZ s_o s_o_told r.2 s_o_told_words (.ref (o_told 0)) (.ref (o_spare 0)))) cx hA hr hf rfl rfl dX11_put_71
              · refine g_ic cx dX11_put_54 k_icm1 ?_
                exact g_iret (ovf := fun (r : Int32 × S4) => (some (.int r.1))) (wf := fun (r : Int32 × S4) => (w_X11_put o o_told o_told_paper o_told_words o_text o_verdict o_trial o_mending o_guess o_choice o_firstImage o_secondImage o_spare o_told_forms o_told_stock cB cI cJ cZ s_o s_o_told r.2 s_o_told_words (.ref (o_told 0)) (.ref (o_spare 0)))) cx hA hr hf rfl rfl dX11_put_55
theorem dX11_change_0 : decode cX11_change 0 = .ok (.aload_n 0, 1) := by decide +kernel
theorem dX11_change_1 : decode cX11_change 1 = .ok (.getfield 62, 3) := by decide +kernel
theorem dX11_change_4 : decode cX11_change 4 = .ok (.getfield 127, 3) := by decide +kernel
theorem dX11_change_7 : decode cX11_change 7 = .ok (.iload_n 1, 1) := by decide +kernel
theorem dX11_change_8 : decode cX11_change 8 = .ok (.invokevirtual 147, 3) := by decide +kernel
theorem dX11_change_11 : decode cX11_change 11 = .ok (.ifCond .eq 17, 3) := by decide +kernel
theorem dX11_change_14 : decode cX11_change 14 = .ok (.aload_n 0, 1) := by decide +kernel
theorem dX11_change_15 : decode cX11_change 15 = .ok (.getfield 62, 3) := by decide +kernel
theorem dX11_change_18 : decode cX11_change 18 = .ok (.getfield 89, 3) := by decide +kernel
theorem dX11_change_21 : decode cX11_change 21 = .ok (.iload_n 2, 1) := by decide +kernel
theorem dX11_change_22 : decode cX11_change 22 = .ok (.invokevirtual 93, 3) := by decide +kernel
theorem dX11_change_25 : decode cX11_change 25 = .ok (.ifCond .ne 5, 3) := by decide +kernel
theorem dX11_change_28 : decode cX11_change 28 = .ok (.iconst (-1), 1) := by decide +kernel
theorem dX11_change_29 : decode cX11_change 29 = .ok (.ireturn, 1) := by decide +kernel
theorem dX11_change_30 : decode cX11_change 30 = .ok (.aload_n 0, 1) := by decide +kernel
theorem dX11_change_31 : decode cX11_change 31 = .ok (.getfield 62, 3) := by decide +kernel
theorem dX11_change_34 : decode cX11_change 34 = .ok (.getfield 127, 3) := by decide +kernel
theorem dX11_change_37 : decode cX11_change 37 = .ok (.iload_n 1, 1) := by decide +kernel
theorem dX11_change_38 : decode cX11_change 38 = .ok (.invokevirtual 148, 3) := by decide +kernel
theorem dX11_change_41 : decode cX11_change 41 = .ok (.istore_n 3, 1) := by decide +kernel
theorem dX11_change_42 : decode cX11_change 42 = .ok (.aload_n 0, 1) := by decide +kernel
theorem dX11_change_43 : decode cX11_change 43 = .ok (.getfield 62, 3) := by decide +kernel
theorem dX11_change_46 : decode cX11_change 46 = .ok (.getfield 127, 3) := by decide +kernel
theorem dX11_change_49 : decode cX11_change 49 = .ok (.iload_n 1, 1) := by decide +kernel
theorem dX11_change_50 : decode cX11_change 50 = .ok (.iload_n 2, 1) := by decide +kernel
theorem dX11_change_51 : decode cX11_change 51 = .ok (.invokevirtual 151, 3) := by decide +kernel
theorem dX11_change_54 : decode cX11_change 54 = .ok (.iload_n 3, 1) := by decide +kernel
theorem dX11_change_55 : decode cX11_change 55 = .ok (.ireturn, 1) := by decide +kernel
theorem q3_93 : Cond.methodLink RX11 147 yX4_has ∈ TT := tq3 93 rfl rfl
theorem q3_94 : Cond.methodLink RX11 148 yX4_wordAt ∈ TT := tq3 94 rfl rfl
theorem q3_95 : Cond.methodLink RX11 151 yX4_setWord ∈ TT := tq3 95 rfl rfl
theorem q3_96 : Cond.instanceMethod yX4_setWord ∈ TT := tq3 96 rfl rfl
theorem q3_97 : Cond.selects RX4 yX4_setWord yX4_setWord ∈ TT := tq3 97 rfl rfl
theorem q3_98 : Cond.code yX4_setWord cX4_setWord 3 none ∈ TT := tq3 98 rfl rfl
theorem lk_RX11_147 : vlk RX11 147 yX4_has cX4_has 2 (some .boolean) 1 := ⟨List.forall_mem_cons.mpr ⟨q3_93, List.forall_mem_cons.mpr ⟨q3_75, List.forall_mem_cons.mpr ⟨q3_76, List.forall_mem_cons.mpr ⟨q1_4, fun _ h => absurd h List.not_mem_nil⟩⟩⟩⟩, q3_77, by decide, by decide, by decide +kernel⟩
theorem lk_RX11_148 : vlk RX11 148 yX4_wordAt cX4_wordAt 2 (some .int) 1 := ⟨List.forall_mem_cons.mpr ⟨q3_94, List.forall_mem_cons.mpr ⟨q3_0, List.forall_mem_cons.mpr ⟨q3_1, List.forall_mem_cons.mpr ⟨q1_4, fun _ h => absurd h List.not_mem_nil⟩⟩⟩⟩, q3_2, by decide, by decide, by decide +kernel⟩
theorem lk_RX11_151 : vlk RX11 151 yX4_setWord cX4_setWord 3 none 2 := ⟨List.forall_mem_cons.mpr ⟨q3_95, List.forall_mem_cons.mpr ⟨q3_96, List.forall_mem_cons.mpr ⟨q3_97, List.forall_mem_cons.mpr ⟨q1_4, fun _ h => absurd h List.not_mem_nil⟩⟩⟩⟩, q3_98, by decide, by decide, by decide +kernel⟩
def F_X11_change (s_o : S11) (s_o_told : S7) (s_o_told_paper : S4) (s_o_told_words : S10) (x1 : Int32) (x2 : Int32) : Option (Int32 × S4) := (F_X4_has s_o_told_paper x1).bind fun q_1 => (if q_1 = 0 then some ((-1), s_o_told_paper) else (F_X10_has s_o_told_words x2).bind fun q_2 => (if q_2 = 0 then some ((-1), s_o_told_paper) else (F_X4_wordAt s_o_told_paper x1).bind fun q_3 => nm q_3 fun v3_4 => (F_X4_setWord s_o_told_paper x1 x2).bind fun q_5 => some (v3_4, q_5)))
def w_X11_change (o o_told o_told_paper o_told_words o_text o_verdict o_trial o_mending o_guess o_choice o_firstImage o_secondImage o_spare o_told_forms o_told_stock : Nat → Nat) (cB cI cJ cZ : ClassId) (s_o : S11) (s_o_told : S7) (s_o_told_paper : S4) (s_o_told_words : S10) (rf_o_told : Value) (rf_o_spare : Value) : va_W := List.flatten [(gX11 o cB cI cJ cZ (o_text 0) (o_verdict 0) (o_trial 0) (o_mending 0) (o_guess 0) (o_choice 0) (o_firstImage 0) (o_secondImage 0) rf_o_told rf_o_spare s_o), (gX7 o_told cB cI cJ cZ (o_told_words 0) (o_told_forms 0) (o_told_paper 0) (o_told_stock 0) s_o_told), (gX4 o_told_paper cB cI cJ cZ s_o_told_paper), (gX10 o_told_words cB cI cJ cZ s_o_told_words)]
abbrev rm_X11_change : Room := { frames := 2, cells := 0, slots := 0, locals := 44 }
set_option maxHeartbeats 4000000 in
set_option maxRecDepth 100000 in
theorem c_X11_change (l : Launch) (D : gG) (cB cI cJ cZ : ClassId) (o o_told o_told_paper o_told_words o_text o_verdict o_trial o_mending o_guess o_choice o_firstImage o_secondImage o_spare o_told_forms o_told_stock : Nat → Nat) (s_o : S11) (s_o_told : S7) (s_o_told_paper : S4) (s_o_told_words : S10) (x1 : Int32) (x2 : Int32) (r : Int32 × S4) (hf : F_X11_change s_o s_o_told s_o_told_paper s_o_told_words x1 x2 = some r) : gM l D (tyL cB cI cJ cZ) yX11_change cX11_change 4 (some .int) rm_X11_change [.ref (o 0), .int x1, .int x2] (w_X11_change o o_told o_told_paper o_told_words o_text o_verdict o_trial o_mending o_guess o_choice o_firstImage o_secondImage o_spare o_told_forms o_told_stock cB cI cJ cZ s_o s_o_told s_o_told_paper s_o_told_words (.ref (o_told 0)) (.ref (o_spare 0))) (some (.int r.1)) (w_X11_change o o_told o_told_paper o_told_words o_text o_verdict o_trial o_mending o_guess o_choice o_firstImage o_secondImage o_spare o_told_forms o_told_stock cB cI cJ cZ s_o s_o_told r.2 s_o_told_words (.ref (o_told 0)) (.ref (o_spare 0))) := by
  refine met_of (by decide) (Nat.le_of_ble_eq_true rfl) ?_
  intro p e s m args below meth c A cx hr hA
  show gW p l e rm_X11_change s m args below meth c D A 4 _ 0 0 _ [(0, .ref (o 0)), (1, .int x1), (2, .int x2)] 0 []
  rw [F_X11_change] at hf
  refine g_aln cx 0 dX11_change_0 rfl ?_
  refine fg_RX11_62 cx 0 rfl rfl dX11_change_1 ?_
  refine fg_RX11_127 cx 1 rfl rfl dX11_change_4 ?_
  refine g_iln cx 1 dX11_change_7 rfl ?_
  refine ob hf (fun q_1 hq_1 hf => ?_)
  refine g_callVGiR cx lk_RX11_147 (c_X4_has l D cB cI cJ cZ o_told_paper s_o_told_paper x1 q_1 hq_1) rfl [2] rfl rfl (ci := 4) (q1 := 0) rfl rfl rfl (Nat.le_of_ble_eq_true rfl) ⟨rfl, rfl, Nat.le_of_ble_eq_true rfl, Nat.le_of_ble_eq_true rfl⟩ dX11_change_8 ?_
  refine g_if_eq (tgt := 28) cx hf dX11_change_11 rfl (fun hf => ?_) (fun hf => ?_)
  · refine g_ic cx dX11_change_28 k_icm1 ?_
    exact g_iret (ovf := fun (r : Int32 × S4) => (some (.int r.1))) (wf := fun (r : Int32 × S4) => (w_X11_change o o_told o_told_paper o_told_words o_text o_verdict o_trial o_mending o_guess o_choice o_firstImage o_secondImage o_spare o_told_forms o_told_stock cB cI cJ cZ s_o s_o_told r.2 s_o_told_words (.ref (o_told 0)) (.ref (o_spare 0)))) cx hA hr hf rfl rfl dX11_change_29
  · refine g_aln cx 0 dX11_change_14 rfl ?_
    refine fg_RX11_62 cx 0 rfl rfl dX11_change_15 ?_
    refine fg_RX11_89 cx 1 rfl rfl dX11_change_18 ?_
    refine g_iln cx 2 dX11_change_21 rfl ?_
    refine ob hf (fun q_2 hq_2 hf => ?_)
    refine g_callVGiR cx lk_RX11_93 (c_X10_has l D cB cI cJ cZ o_told_words s_o_told_words x2 q_2 hq_2) rfl [3] rfl rfl (ci := 8) (q1 := 0) rfl rfl rfl (Nat.le_of_ble_eq_true rfl) ⟨rfl, rfl, Nat.le_of_ble_eq_true rfl, Nat.le_of_ble_eq_true rfl⟩ dX11_change_22 ?_
    refine g_if_ne (tgt := 30) cx hf dX11_change_25 rfl (fun hf => ?_) (fun hf => ?_)
    · refine g_aln cx 0 dX11_change_30 rfl ?_
      refine fg_RX11_62 cx 0 rfl rfl dX11_change_31 ?_
      refine fg_RX11_127 cx 1 rfl rfl dX11_change_34 ?_
      refine g_iln cx 1 dX11_change_37 rfl ?_
      refine ob hf (fun q_3 hq_3 hf => ?_)
      refine g_callVGiR cx lk_RX11_148 (c_X4_wordAt l D cB cI cJ cZ o_told_paper s_o_told_paper x1 q_3 hq_3) rfl [2] rfl rfl (ci := 4) (q1 := 0) rfl rfl rfl (Nat.le_of_ble_eq_true rfl) ⟨rfl, rfl, Nat.le_of_ble_eq_true rfl, Nat.le_of_ble_eq_true rfl⟩ dX11_change_38 ?_
      refine g_isn cx (L2 := fun v3_4 => [(3, .int v3_4), (0, .ref (o 0)), (1, .int x1), (2, .int x2)]) hf dX11_change_41 (Nat.le_of_ble_eq_true rfl) (fun _ => rfl) (fun v3_4 hf => ?_)
      refine g_aln cx 1 dX11_change_42 rfl ?_
      refine fg_RX11_62 cx 0 rfl rfl dX11_change_43 ?_
      refine fg_RX11_127 cx 1 rfl rfl dX11_change_46 ?_
      refine g_iln cx 2 dX11_change_49 rfl ?_
      refine g_iln cx 3 dX11_change_50 rfl ?_
      refine ob hf (fun q_5 hq_5 hf => ?_)
      refine g_callVGv (gs' := [(gX11 o cB cI cJ cZ (o_text 0) (o_verdict 0) (o_trial 0) (o_mending 0) (o_guess 0) (o_choice 0) (o_firstImage 0) (o_secondImage 0) (.ref (o_told 0)) (.ref (o_spare 0)) s_o), (gX7 o_told cB cI cJ cZ (o_told_words 0) (o_told_forms 0) (o_told_paper 0) (o_told_stock 0) s_o_told), (gX4 o_told_paper cB cI cJ cZ q_5), (gX10 o_told_words cB cI cJ cZ s_o_told_words)]) cx lk_RX11_151 (c_X4_setWord l D cB cI cJ cZ o_told_paper s_o_told_paper x1 x2 q_5 hq_5) rfl [2] rfl rfl rfl rfl (ci := 4) (q1 := 0) rfl rfl rfl (Nat.le_of_ble_eq_true rfl) ⟨rfl, rfl, Nat.le_of_ble_eq_true rfl, Nat.le_of_ble_eq_true rfl⟩ dX11_change_51 ?_
      refine g_iln cx 0 dX11_change_54 rfl ?_
      exact g_iret (ovf := fun (r : Int32 × S4) => (some (.int r.1))) (wf := fun (r : Int32 × S4) => (w_X11_change o o_told o_told_paper o_told_words o_text o_verdict o_trial o_mending o_guess o_choice o_firstImage o_secondImage o_spare o_told_forms o_told_stock cB cI cJ cZ s_o s_o_told r.2 s_o_told_words (.ref (o_told 0)) (.ref (o_spare 0)))) cx hA hr hf rfl rfl dX11_change_55
    · refine g_ic cx dX11_change_28 k_icm1 ?_
      exact g_iret (ovf := fun (r : Int32 × S4) => (some (.int r.1))) (wf := fun (r : Int32 × S4) => (w_X11_change o o_told o_told_paper o_told_words o_text o_verdict o_trial o_mending o_guess o_choice o_firstImage o_secondImage o_spare o_told_forms o_told_stock cB cI cJ cZ s_o s_o_told r.2 s_o_told_words (.ref (o_told 0)) (.ref (o_spare 0)))) cx hA hr hf rfl rfl dX11_change_29
theorem dX11_take_0 : decode cX11_take 0 = .ok (.aload_n 0, 1) := by decide +kernel
theorem dX11_take_1 : decode cX11_take 1 = .ok (.getfield 62, 3) := by decide +kernel
theorem dX11_take_4 : decode cX11_take 4 = .ok (.getfield 127, 3) := by decide +kernel
theorem dX11_take_7 : decode cX11_take 7 = .ok (.iload_n 1, 1) := by decide +kernel
theorem dX11_take_8 : decode cX11_take 8 = .ok (.invokevirtual 147, 3) := by decide +kernel
theorem dX11_take_11 : decode cX11_take 11 = .ok (.ifCond .ne 5, 3) := by decide +kernel
theorem dX11_take_14 : decode cX11_take 14 = .ok (.iconst (-1), 1) := by decide +kernel
theorem dX11_take_15 : decode cX11_take 15 = .ok (.ireturn, 1) := by decide +kernel
theorem dX11_take_16 : decode cX11_take 16 = .ok (.aload_n 0, 1) := by decide +kernel
theorem dX11_take_17 : decode cX11_take 17 = .ok (.getfield 62, 3) := by decide +kernel
theorem dX11_take_20 : decode cX11_take 20 = .ok (.getfield 127, 3) := by decide +kernel
theorem dX11_take_23 : decode cX11_take 23 = .ok (.iload_n 1, 1) := by decide +kernel
theorem dX11_take_24 : decode cX11_take 24 = .ok (.invokevirtual 154, 3) := by decide +kernel
theorem dX11_take_27 : decode cX11_take 27 = .ok (.aload_n 0, 1) := by decide +kernel
theorem dX11_take_28 : decode cX11_take 28 = .ok (.getfield 62, 3) := by decide +kernel
theorem dX11_take_31 : decode cX11_take 31 = .ok (.getfield 127, 3) := by decide +kernel
theorem dX11_take_34 : decode cX11_take 34 = .ok (.invokevirtual 136, 3) := by decide +kernel
theorem dX11_take_37 : decode cX11_take 37 = .ok (.ireturn, 1) := by decide +kernel
theorem q3_103 : Cond.methodLink RX11 154 yX4_remove ∈ TT := tq3 103 rfl rfl
theorem q3_104 : Cond.instanceMethod yX4_remove ∈ TT := tq3 104 rfl rfl
theorem q3_105 : Cond.selects RX4 yX4_remove yX4_remove ∈ TT := tq3 105 rfl rfl
theorem q3_106 : Cond.code yX4_remove cX4_remove 3 none ∈ TT := tq3 106 rfl rfl
theorem lk_RX11_154 : vlk RX11 154 yX4_remove cX4_remove 3 none 1 := ⟨List.forall_mem_cons.mpr ⟨q3_103, List.forall_mem_cons.mpr ⟨q3_104, List.forall_mem_cons.mpr ⟨q3_105, List.forall_mem_cons.mpr ⟨q1_4, fun _ h => absurd h List.not_mem_nil⟩⟩⟩⟩, q3_106, by decide, by decide, by decide +kernel⟩
def F_X11_take (s_o : S11) (s_o_told : S7) (s_o_told_paper : S4) (x1 : Int32) : Option (Int32 × S4) := (F_X4_has s_o_told_paper x1).bind fun q_1 => (if q_1 = 0 then some ((-1), s_o_told_paper) else (F_X4_remove s_o_told_paper x1).bind fun q_2 => (F_X4_size q_2).bind fun q_3 => some (q_3, q_2))
def w_X11_take (o o_told o_told_paper o_text o_verdict o_trial o_mending o_guess o_choice o_firstImage o_secondImage o_spare o_told_words o_told_forms o_told_stock : Nat → Nat) (cB cI cJ cZ : ClassId) (s_o : S11) (s_o_told : S7) (s_o_told_paper : S4) (rf_o_told : Value) (rf_o_spare : Value) : va_W := List.flatten [(gX11 o cB cI cJ cZ (o_text 0) (o_verdict 0) (o_trial 0) (o_mending 0) (o_guess 0) (o_choice 0) (o_firstImage 0) (o_secondImage 0) rf_o_told rf_o_spare s_o), (gX7 o_told cB cI cJ cZ (o_told_words 0) (o_told_forms 0) (o_told_paper 0) (o_told_stock 0) s_o_told), (gX4 o_told_paper cB cI cJ cZ s_o_told_paper)]
abbrev rm_X11_take : Room := { frames := 3, cells := 0, slots := 0, locals := 68 }
set_option maxHeartbeats 4000000 in
set_option maxRecDepth 100000 in
theorem c_X11_take (l : Launch) (D : gG) (cB cI cJ cZ : ClassId) (o o_told o_told_paper o_text o_verdict o_trial o_mending o_guess o_choice o_firstImage o_secondImage o_spare o_told_words o_told_forms o_told_stock : Nat → Nat) (s_o : S11) (s_o_told : S7) (s_o_told_paper : S4) (x1 : Int32) (r : Int32 × S4) (hf : F_X11_take s_o s_o_told s_o_told_paper x1 = some r) : gM l D (tyL cB cI cJ cZ) yX11_take cX11_take 2 (some .int) rm_X11_take [.ref (o 0), .int x1] (w_X11_take o o_told o_told_paper o_text o_verdict o_trial o_mending o_guess o_choice o_firstImage o_secondImage o_spare o_told_words o_told_forms o_told_stock cB cI cJ cZ s_o s_o_told s_o_told_paper (.ref (o_told 0)) (.ref (o_spare 0))) (some (.int r.1)) (w_X11_take o o_told o_told_paper o_text o_verdict o_trial o_mending o_guess o_choice o_firstImage o_secondImage o_spare o_told_words o_told_forms o_told_stock cB cI cJ cZ s_o s_o_told r.2 (.ref (o_told 0)) (.ref (o_spare 0))) := by
  refine met_of (by decide) (Nat.le_of_ble_eq_true rfl) ?_
  intro p e s m args below meth c A cx hr hA
  show gW p l e rm_X11_take s m args below meth c D A 2 _ 0 0 _ [(0, .ref (o 0)), (1, .int x1)] 0 []
  rw [F_X11_take] at hf
  refine g_aln cx 0 dX11_take_0 rfl ?_
  refine fg_RX11_62 cx 0 rfl rfl dX11_take_1 ?_
  refine fg_RX11_127 cx 1 rfl rfl dX11_take_4 ?_
  refine g_iln cx 1 dX11_take_7 rfl ?_
  refine ob hf (fun q_1 hq_1 hf => ?_)
  refine g_callVGiR cx lk_RX11_147 (c_X4_has l D cB cI cJ cZ o_told_paper s_o_told_paper x1 q_1 hq_1) rfl [2] rfl rfl (ci := 4) (q1 := 0) rfl rfl rfl (Nat.le_of_ble_eq_true rfl) ⟨rfl, rfl, Nat.le_of_ble_eq_true rfl, Nat.le_of_ble_eq_true rfl⟩ dX11_take_8 ?_
  refine g_if_ne (tgt := 16) cx hf dX11_take_11 rfl (fun hf => ?_) (fun hf => ?_)
  · refine g_aln cx 0 dX11_take_16 rfl ?_
    refine fg_RX11_62 cx 0 rfl rfl dX11_take_17 ?_
    refine fg_RX11_127 cx 1 rfl rfl dX11_take_20 ?_
    refine g_iln cx 1 dX11_take_23 rfl ?_
    refine ob hf (fun q_2 hq_2 hf => ?_)
    refine g_callVGv (gs' := [(gX11 o cB cI cJ cZ (o_text 0) (o_verdict 0) (o_trial 0) (o_mending 0) (o_guess 0) (o_choice 0) (o_firstImage 0) (o_secondImage 0) (.ref (o_told 0)) (.ref (o_spare 0)) s_o), (gX7 o_told cB cI cJ cZ (o_told_words 0) (o_told_forms 0) (o_told_paper 0) (o_told_stock 0) s_o_told), (gX4 o_told_paper cB cI cJ cZ q_2)]) cx lk_RX11_154 (c_X4_remove l D cB cI cJ cZ o_told_paper s_o_told_paper x1 q_2 hq_2) rfl [2] rfl rfl rfl rfl (ci := 4) (q1 := 0) rfl rfl rfl (Nat.le_of_ble_eq_true rfl) ⟨rfl, rfl, Nat.le_of_ble_eq_true rfl, Nat.le_of_ble_eq_true rfl⟩ dX11_take_24 ?_
    refine g_aln cx 0 dX11_take_27 rfl ?_
    refine fg_RX11_62 cx 0 rfl rfl dX11_take_28 ?_
    refine fg_RX11_127 cx 1 rfl rfl dX11_take_31 ?_
    refine ob hf (fun q_3 hq_3 hf => ?_)
    refine g_callVGiR cx lk_RX11_136 (c_X4_size l D cB cI cJ cZ o_told_paper q_2 q_3 hq_3) rfl [2] rfl rfl (ci := 4) (q1 := 0) rfl rfl rfl (Nat.le_of_ble_eq_true rfl) ⟨rfl, rfl, Nat.le_of_ble_eq_true rfl, Nat.le_of_ble_eq_true rfl⟩ dX11_take_34 ?_
    exact g_iret (ovf := fun (r : Int32 × S4) => (some (.int r.1))) (wf := fun (r : Int32 × S4) => (w_X11_take o o_told o_told_paper o_text o_verdict o_trial o_mending o_guess o_choice o_firstImage o_secondImage o_spare o_told_words o_told_forms o_told_stock cB cI cJ cZ s_o s_o_told r.2 (.ref (o_told 0)) (.ref (o_spare 0)))) cx hA hr hf rfl rfl dX11_take_37
  · refine g_ic cx dX11_take_14 k_icm1 ?_
    exact g_iret (ovf := fun (r : Int32 × S4) => (some (.int r.1))) (wf := fun (r : Int32 × S4) => (w_X11_take o o_told o_told_paper o_text o_verdict o_trial o_mending o_guess o_choice o_firstImage o_secondImage o_spare o_told_words o_told_forms o_told_stock cB cI cJ cZ s_o s_o_told r.2 (.ref (o_told 0)) (.ref (o_spare 0)))) cx hA hr hf rfl rfl dX11_take_15
theorem dX11_isNoView_0 : decode cX11_isNoView 0 = .ok (.aload_n 0, 1) := by decide +kernel
theorem dX11_isNoView_1 : decode cX11_isNoView 1 = .ok (.getfield 62, 3) := by decide +kernel
theorem dX11_isNoView_4 : decode cX11_isNoView 4 = .ok (.getfield 110, 3) := by decide +kernel
theorem dX11_isNoView_7 : decode cX11_isNoView 7 = .ok (.iload_n 1, 1) := by decide +kernel
theorem dX11_isNoView_8 : decode cX11_isNoView 8 = .ok (.invokevirtual 114, 3) := by decide +kernel
theorem dX11_isNoView_11 : decode cX11_isNoView 11 = .ok (.ifCond .eq 12, 3) := by decide +kernel
theorem dX11_isNoView_14 : decode cX11_isNoView 14 = .ok (.iload_n 2, 1) := by decide +kernel
theorem dX11_isNoView_15 : decode cX11_isNoView 15 = .ok (.ifCond .lt 8, 3) := by decide +kernel
theorem dX11_isNoView_18 : decode cX11_isNoView 18 = .ok (.iload_n 2, 1) := by decide +kernel
theorem dX11_isNoView_19 : decode cX11_isNoView 19 = .ok (.iconst 2, 1) := by decide +kernel
theorem dX11_isNoView_20 : decode cX11_isNoView 20 = .ok (.if_icmp .lt 7, 3) := by decide +kernel
theorem dX11_isNoView_23 : decode cX11_isNoView 23 = .ok (.iconst 1, 1) := by decide +kernel
theorem dX11_isNoView_24 : decode cX11_isNoView 24 = .ok (.goto 4, 3) := by decide +kernel
theorem dX11_isNoView_27 : decode cX11_isNoView 27 = .ok (.iconst 0, 1) := by decide +kernel
theorem dX11_isNoView_28 : decode cX11_isNoView 28 = .ok (.ireturn, 1) := by decide +kernel


def F_X11_isNoView (s_o : S11) (s_o_told : S7) (s_o_told_forms : S1) (x1 : Int32) (x2 : Int32) : Option (Int32) := (F_X1_has s_o_told_forms x1).bind fun q_1 => (if q_1 = 0 then some (1) else (if x2 < 0 then some (1) else (if x2 < 2 then some (0) else some (1))))
def w_X11_isNoView (o o_told o_told_forms o_text o_verdict o_trial o_mending o_guess o_choice o_firstImage o_secondImage o_spare o_told_words o_told_paper o_told_stock : Nat → Nat) (cB cI cJ cZ : ClassId) (s_o : S11) (s_o_told : S7) (s_o_told_forms : S1) (rf_o_told : Value) (rf_o_spare : Value) : va_W := List.flatten [(gX11 o cB cI cJ cZ (o_text 0) (o_verdict 0) (o_trial 0) (o_mending 0) (o_guess 0) (o_choice 0) (o_firstImage 0) (o_secondImage 0) rf_o_told rf_o_spare s_o), (gX7 o_told cB cI cJ cZ (o_told_words 0) (o_told_forms 0) (o_told_paper 0) (o_told_stock 0) s_o_told), (gX1 o_told_forms cB cI cJ cZ s_o_told_forms)]
abbrev rm_X11_isNoView : Room := { frames := 1, cells := 0, slots := 0, locals := 21 }
set_option maxHeartbeats 4000000 in
set_option maxRecDepth 100000 in
theorem c_X11_isNoView (l : Launch) (D : gG) (cB cI cJ cZ : ClassId) (o o_told o_told_forms o_text o_verdict o_trial o_mending o_guess o_choice o_firstImage o_secondImage o_spare o_told_words o_told_paper o_told_stock : Nat → Nat) (s_o : S11) (s_o_told : S7) (s_o_told_forms : S1) (x1 : Int32) (x2 : Int32) (r : Int32) (hf : F_X11_isNoView s_o s_o_told s_o_told_forms x1 x2 = some r) : gM l D (tyL cB cI cJ cZ) yX11_isNoView cX11_isNoView 3 (some .boolean) rm_X11_isNoView [.ref (o 0), .int x1, .int x2] (w_X11_isNoView o o_told o_told_forms o_text o_verdict o_trial o_mending o_guess o_choice o_firstImage o_secondImage o_spare o_told_words o_told_paper o_told_stock cB cI cJ cZ s_o s_o_told s_o_told_forms (.ref (o_told 0)) (.ref (o_spare 0))) (some (.int r)) (w_X11_isNoView o o_told o_told_forms o_text o_verdict o_trial o_mending o_guess o_choice o_firstImage o_secondImage o_spare o_told_words o_told_paper o_told_stock cB cI cJ cZ s_o s_o_told s_o_told_forms (.ref (o_told 0)) (.ref (o_spare 0))) := by
  refine met_of (by decide) (Nat.le_of_ble_eq_true rfl) ?_
  intro p e s m args below meth c A cx hr hA
  show gW p l e rm_X11_isNoView s m args below meth c D A 3 _ 0 0 _ [(0, .ref (o 0)), (1, .int x1), (2, .int x2)] 0 []
  rw [F_X11_isNoView] at hf
  refine g_aln cx 0 dX11_isNoView_0 rfl ?_
  refine fg_RX11_62 cx 0 rfl rfl dX11_isNoView_1 ?_
  refine fg_RX11_110 cx 1 rfl rfl dX11_isNoView_4 ?_
  refine g_iln cx 1 dX11_isNoView_7 rfl ?_
  refine ob hf (fun q_1 hq_1 hf => ?_)
  refine g_callVGiR cx lk_RX11_114 (c_X1_has l D cB cI cJ cZ o_told_forms s_o_told_forms x1 q_1 hq_1) rfl [2] rfl rfl (ci := 1) (q1 := 0) rfl rfl rfl (Nat.le_of_ble_eq_true rfl) ⟨rfl, rfl, Nat.le_of_ble_eq_true rfl, Nat.le_of_ble_eq_true rfl⟩ dX11_isNoView_8 ?_
  refine g_if_eq (tgt := 23) cx hf dX11_isNoView_11 rfl (fun hf => ?_) (fun hf => ?_)
  · refine g_ic cx dX11_isNoView_23 k_ic1 ?_
    refine g_goto (tgt := 28) cx dX11_isNoView_24 rfl ?_
    exact g_zret (ovf := fun (r : Int32) => (some (.int r))) (wf := fun (r : Int32) => (w_X11_isNoView o o_told o_told_forms o_text o_verdict o_trial o_mending o_guess o_choice o_firstImage o_secondImage o_spare o_told_words o_told_paper o_told_stock cB cI cJ cZ s_o s_o_told s_o_told_forms (.ref (o_told 0)) (.ref (o_spare 0)))) cx hA hr rfl hf rfl rfl dX11_isNoView_28
  · refine g_iln cx 2 dX11_isNoView_14 rfl ?_
    refine g_if_lt (tgt := 23) cx hf dX11_isNoView_15 rfl (fun hf => ?_) (fun hf => ?_)
    · refine g_ic cx dX11_isNoView_23 k_ic1 ?_
      refine g_goto (tgt := 28) cx dX11_isNoView_24 rfl ?_
      exact g_zret (ovf := fun (r : Int32) => (some (.int r))) (wf := fun (r : Int32) => (w_X11_isNoView o o_told o_told_forms o_text o_verdict o_trial o_mending o_guess o_choice o_firstImage o_secondImage o_spare o_told_words o_told_paper o_told_stock cB cI cJ cZ s_o s_o_told s_o_told_forms (.ref (o_told 0)) (.ref (o_spare 0)))) cx hA hr rfl hf rfl rfl dX11_isNoView_28
    · refine g_iln cx 2 dX11_isNoView_18 rfl ?_
      refine g_ic cx dX11_isNoView_19 k_ic2 ?_
      refine g_ic_lt (tgt := 27) cx hf dX11_isNoView_20 rfl (fun hf => ?_) (fun hf => ?_)
      · refine g_ic cx dX11_isNoView_27 k_ic0 ?_
        exact g_zret (ovf := fun (r : Int32) => (some (.int r))) (wf := fun (r : Int32) => (w_X11_isNoView o o_told o_told_forms o_text o_verdict o_trial o_mending o_guess o_choice o_firstImage o_secondImage o_spare o_told_words o_told_paper o_told_stock cB cI cJ cZ s_o s_o_told s_o_told_forms (.ref (o_told 0)) (.ref (o_spare 0)))) cx hA hr rfl hf rfl rfl dX11_isNoView_28
      · refine g_ic cx dX11_isNoView_23 k_ic1 ?_
        refine g_goto (tgt := 28) cx dX11_isNoView_24 rfl ?_
        exact g_zret (ovf := fun (r : Int32) => (some (.int r))) (wf := fun (r : Int32) => (w_X11_isNoView o o_told o_told_forms o_text o_verdict o_trial o_mending o_guess o_choice o_firstImage o_secondImage o_spare o_told_words o_told_paper o_told_stock cB cI cJ cZ s_o s_o_told s_o_told_forms (.ref (o_told 0)) (.ref (o_spare 0)))) cx hA hr rfl hf rfl rfl dX11_isNoView_28
theorem dX11_view_0 : decode cX11_view 0 = .ok (.aload_n 0, 1) := by decide +kernel
theorem dX11_view_1 : decode cX11_view 1 = .ok (.getfield 19, 3) := by decide +kernel
theorem dX11_view_4 : decode cX11_view 4 = .ok (.aload_n 0, 1) := by decide +kernel
theorem dX11_view_5 : decode cX11_view 5 = .ok (.getfield 62, 3) := by decide +kernel
theorem dX11_view_8 : decode cX11_view 8 = .ok (.aload_n 0, 1) := by decide +kernel
theorem dX11_view_9 : decode cX11_view 9 = .ok (.getfield 62, 3) := by decide +kernel
theorem dX11_view_12 : decode cX11_view 12 = .ok (.getfield 127, 3) := by decide +kernel
theorem dX11_view_15 : decode cX11_view 15 = .ok (.iload_n 1, 1) := by decide +kernel
theorem dX11_view_16 : decode cX11_view 16 = .ok (.iload_n 2, 1) := by decide +kernel
theorem dX11_view_17 : decode cX11_view 17 = .ok (.invokevirtual 260, 3) := by decide +kernel
theorem dX11_view_20 : decode cX11_view 20 = .ok (.aload_n 0, 1) := by decide +kernel
theorem dX11_view_21 : decode cX11_view 21 = .ok (.getfield 19, 3) := by decide +kernel
theorem dX11_view_24 : decode cX11_view 24 = .ok (.areturn, 1) := by decide +kernel
theorem q1_233 : Cond.fieldLink RX11 19 "RhymeLaw" "verdict" "LRhymeLaw$Verdict;" ∈ TT := tq1 233 rfl rfl
theorem q3_119 : Cond.methodLink RX11 260 yX9_judge ∈ TT := tq3 119 rfl rfl
theorem q3_120 : Cond.instanceMethod yX9_judge ∈ TT := tq3 120 rfl rfl
theorem q3_121 : Cond.selects RX9 yX9_judge yX9_judge ∈ TT := tq3 121 rfl rfl
theorem q3_122 : Cond.code yX9_judge cX9_judge 9 none ∈ TT := tq3 122 rfl rfl
theorem fg_RX11_19 {p : Program} {l : Launch} {e : Env} {R : Room} {s : State} {m : MethodId} {args : Array Value} {below : List Frame} {meth : Method} {c : Code} {D : gG} {tys : List (ClassId × FieldType)} {A : Nat → Prop} {nL : Nat} {Q : State → Prop} {cells slots : Nat} {cc : ByteArray} {ws : va_W} {L : List (Nat × Value)} {pc : Nat} {stk : List Value} (cx : gX p s m args meth c cc nL RX11 D tys A) {a : Nat} {fs : List Value} {v : Value} (q0 : Nat) (he : ws[q0]? = some (a, .inr (9, fs))) (hv : fs[1]? = some v) (hd : decode cc pc = .ok (.getfield 19, 3)) (kk : gW p l e R s m args below meth c D A nL Q cells slots ws L (pc + 3) (v :: stk)) : gW p l e R s m args below meth c D A nL Q cells slots ws L pc (.ref a :: stk) :=
  g_get cx (C := RX11) (T := TX11) (N := 12) inT11 rfl 1 (Nat.le_of_ble_eq_true rfl) q1_233 rfl q0 he hv hd kk
theorem lk_RX11_260 : vlk RX11 260 yX9_judge cX9_judge 9 none 4 := ⟨List.forall_mem_cons.mpr ⟨q3_119, List.forall_mem_cons.mpr ⟨q3_120, List.forall_mem_cons.mpr ⟨q3_121, List.forall_mem_cons.mpr ⟨q1_3, fun _ h => absurd h List.not_mem_nil⟩⟩⟩⟩, q3_122, by decide, by decide, by decide +kernel⟩
def F_X11_view (s_o : S11) (s_o_told : S7) (s_o_verdict : S9) (s_o_told_forms : S1) (s_o_told_paper : S4) (s_o_told_words : S10) (x1 : Int32) (x2 : Int32) : Option (S9) := (F_X9_judge s_o_told s_o_told_paper s_o_verdict s_o_told_forms s_o_told_words x1 x2).bind fun q_1 => some (q_1)
def w_X11_view (o o_told o_verdict o_told_forms o_told_paper o_told_words o_text o_trial o_mending o_guess o_choice o_firstImage o_secondImage o_spare o_told_stock : Nat → Nat) (cB cI cJ cZ : ClassId) (s_o : S11) (s_o_told : S7) (s_o_verdict : S9) (s_o_told_forms : S1) (s_o_told_paper : S4) (s_o_told_words : S10) (rf_o_told : Value) (rf_o_spare : Value) : va_W := List.flatten [(gX11 o cB cI cJ cZ (o_text 0) (o_verdict 0) (o_trial 0) (o_mending 0) (o_guess 0) (o_choice 0) (o_firstImage 0) (o_secondImage 0) rf_o_told rf_o_spare s_o), (gX7 o_told cB cI cJ cZ (o_told_words 0) (o_told_forms 0) (o_told_paper 0) (o_told_stock 0) s_o_told), (gX9 o_verdict cB cI cJ cZ s_o_verdict), (gX1 o_told_forms cB cI cJ cZ s_o_told_forms), (gX4 o_told_paper cB cI cJ cZ s_o_told_paper), (gX10 o_told_words cB cI cJ cZ s_o_told_words)]
abbrev rm_X11_view : Room := { frames := 4, cells := 0, slots := 0, locals := 94 }
set_option maxHeartbeats 4000000 in
set_option maxRecDepth 100000 in
theorem c_X11_view (l : Launch) (D : gG) (cB cI cJ cZ : ClassId) (o o_told o_verdict o_told_forms o_told_paper o_told_words o_text o_trial o_mending o_guess o_choice o_firstImage o_secondImage o_spare o_told_stock : Nat → Nat) (s_o : S11) (s_o_told : S7) (s_o_verdict : S9) (s_o_told_forms : S1) (s_o_told_paper : S4) (s_o_told_words : S10) (x1 : Int32) (x2 : Int32) (r : S9) (hf : F_X11_view s_o s_o_told s_o_verdict s_o_told_forms s_o_told_paper s_o_told_words x1 x2 = some r) : gM l D (tyL cB cI cJ cZ) yX11_view cX11_view 3 (some (.object "RhymeLaw$Verdict")) rm_X11_view [.ref (o 0), .int x1, .int x2] (w_X11_view o o_told o_verdict o_told_forms o_told_paper o_told_words o_text o_trial o_mending o_guess o_choice o_firstImage o_secondImage o_spare o_told_stock cB cI cJ cZ s_o s_o_told s_o_verdict s_o_told_forms s_o_told_paper s_o_told_words (.ref (o_told 0)) (.ref (o_spare 0))) (some (.ref (o_verdict 0))) (w_X11_view o o_told o_verdict o_told_forms o_told_paper o_told_words o_text o_trial o_mending o_guess o_choice o_firstImage o_secondImage o_spare o_told_stock cB cI cJ cZ s_o s_o_told r s_o_told_forms s_o_told_paper s_o_told_words (.ref (o_told 0)) (.ref (o_spare 0))) := by
  refine met_of (by decide) (Nat.le_of_ble_eq_true rfl) ?_
  intro p e s m args below meth c A cx hr hA
  show gW p l e rm_X11_view s m args below meth c D A 3 _ 0 0 _ [(0, .ref (o 0)), (1, .int x1), (2, .int x2)] 0 []
  rw [F_X11_view] at hf
  refine g_aln cx 0 dX11_view_0 rfl ?_
  refine fg_RX11_19 cx 0 rfl rfl dX11_view_1 ?_
  refine g_aln cx 0 dX11_view_4 rfl ?_
  refine fg_RX11_62 cx 0 rfl rfl dX11_view_5 ?_
  refine g_aln cx 0 dX11_view_8 rfl ?_
  refine fg_RX11_62 cx 0 rfl rfl dX11_view_9 ?_
  refine fg_RX11_127 cx 1 rfl rfl dX11_view_12 ?_
  refine g_iln cx 1 dX11_view_15 rfl ?_
  refine g_iln cx 2 dX11_view_16 rfl ?_
  refine ob hf (fun q_1 hq_1 hf => ?_)
  refine g_callVGv (gs' := [(gX11 o cB cI cJ cZ (o_text 0) (o_verdict 0) (o_trial 0) (o_mending 0) (o_guess 0) (o_choice 0) (o_firstImage 0) (o_secondImage 0) (.ref (o_told 0)) (.ref (o_spare 0)) s_o), (gX7 o_told cB cI cJ cZ (o_told_words 0) (o_told_forms 0) (o_told_paper 0) (o_told_stock 0) s_o_told), (gX9 o_verdict cB cI cJ cZ q_1), (gX1 o_told_forms cB cI cJ cZ s_o_told_forms), (gX4 o_told_paper cB cI cJ cZ s_o_told_paper), (gX10 o_told_words cB cI cJ cZ s_o_told_words)]) cx lk_RX11_260 (c_X9_judge l D cB cI cJ cZ o_told o_told_paper o_verdict o_told_forms o_told_words o_told_paper o_told_stock s_o_told s_o_told_paper s_o_verdict s_o_told_forms s_o_told_words x1 x2 q_1 hq_1) rfl [1, 4, 2, 3, 5] rfl rfl rfl rfl (ci := 7) (q1 := 6) rfl rfl rfl (Nat.le_of_ble_eq_true rfl) ⟨rfl, rfl, Nat.le_of_ble_eq_true rfl, Nat.le_of_ble_eq_true rfl⟩ dX11_view_17 ?_
  refine g_aln cx 0 dX11_view_20 rfl ?_
  refine fg_RX11_19 cx 0 rfl rfl dX11_view_21 ?_
  exact g_aret (ovf := fun (r : S9) => (some (.ref (o_verdict 0)))) (wf := fun (r : S9) => (w_X11_view o o_told o_verdict o_told_forms o_told_paper o_told_words o_text o_trial o_mending o_guess o_choice o_firstImage o_secondImage o_spare o_told_stock cB cI cJ cZ s_o s_o_told r s_o_told_forms s_o_told_paper s_o_told_words (.ref (o_told 0)) (.ref (o_spare 0)))) cx hA hr hf rfl rfl dX11_view_24
def tX11_judged_8 : List Nat := 247 :: 172 :: 2 :: 172 :: []
def tX11_judged_7 : List Nat := 182 :: 0 :: 174 :: 153 :: 0 :: 12 :: 25 :: 5 :: 29 :: 182 :: 0 :: 177 :: 167 :: 0 :: 5 :: 16 :: tX11_judged_8
def tX11_judged_6 : List Nat := 29 :: 182 :: 0 :: 171 :: 153 :: 0 :: 7 :: 4 :: 167 :: 0 :: 4 :: 3 :: 172 :: 25 :: 5 :: 29 :: tX11_judged_7
def tX11_judged_5 : List Nat := 5 :: 29 :: 182 :: 0 :: 168 :: 153 :: 0 :: 7 :: 4 :: 167 :: 0 :: 4 :: 3 :: 172 :: 25 :: 5 :: tX11_judged_6
def tX11_judged_4 : List Nat := 25 :: 5 :: 29 :: 182 :: 0 :: 165 :: 153 :: 0 :: 7 :: 4 :: 167 :: 0 :: 4 :: 3 :: 172 :: 25 :: tX11_judged_5
def tX11_judged_3 : List Nat := 0 :: 0 :: 0 :: 29 :: 0 :: 0 :: 0 :: 44 :: 0 :: 0 :: 0 :: 59 :: 0 :: 0 :: 0 :: 74 :: tX11_judged_4
def tX11_judged_2 : List Nat := 5 :: 21 :: 4 :: 170 :: 0 :: 0 :: 0 :: 95 :: 0 :: 0 :: 0 :: 0 :: 0 :: 0 :: 0 :: 3 :: tX11_judged_3
def tX11_judged_1 : List Nat := 29 :: 182 :: 0 :: 147 :: 154 :: 0 :: 5 :: 2 :: 172 :: 42 :: 27 :: 28 :: 182 :: 0 :: 161 :: 58 :: tX11_judged_2
def tX11_judged_0 : List Nat := 42 :: 27 :: 28 :: 182 :: 0 :: 157 :: 154 :: 0 :: 17 :: 42 :: 180 :: 0 :: 62 :: 180 :: 0 :: 127 :: tX11_judged_1
theorem tX11_judgedf_0 : (cX11_judged.data.toList.map UInt8.toNat).drop 0 = tX11_judged_0 := by decide +kernel
theorem tX11_judgedf_1 : (cX11_judged.data.toList.map UInt8.toNat).drop 16 = tX11_judged_1 := fd_next (k := 0) tX11_judgedf_0 rfl
theorem tX11_judgedf_2 : (cX11_judged.data.toList.map UInt8.toNat).drop 32 = tX11_judged_2 := fd_next (k := 16) tX11_judgedf_1 rfl
theorem tX11_judgedf_3 : (cX11_judged.data.toList.map UInt8.toNat).drop 48 = tX11_judged_3 := fd_next (k := 32) tX11_judgedf_2 rfl
theorem tX11_judgedf_4 : (cX11_judged.data.toList.map UInt8.toNat).drop 64 = tX11_judged_4 := fd_next (k := 48) tX11_judgedf_3 rfl
theorem tX11_judgedf_5 : (cX11_judged.data.toList.map UInt8.toNat).drop 80 = tX11_judged_5 := fd_next (k := 64) tX11_judgedf_4 rfl
theorem tX11_judgedf_6 : (cX11_judged.data.toList.map UInt8.toNat).drop 96 = tX11_judged_6 := fd_next (k := 80) tX11_judgedf_5 rfl
theorem tX11_judgedf_7 : (cX11_judged.data.toList.map UInt8.toNat).drop 112 = tX11_judged_7 := fd_next (k := 96) tX11_judgedf_6 rfl
theorem tX11_judgedf_8 : (cX11_judged.data.toList.map UInt8.toNat).drop 128 = tX11_judged_8 := fd_next (k := 112) tX11_judgedf_7 rfl
theorem dX11_judged_0 : decode cX11_judged 0 = .ok (.aload_n 0, 1) := dk_42 (fdB_of (k := 0) tX11_judgedf_0 0 42 rfl)
theorem dX11_judged_1 : decode cX11_judged 1 = .ok (.iload_n 1, 1) := dk_27 (fdB_of (k := 0) tX11_judgedf_0 1 27 rfl)
theorem dX11_judged_2 : decode cX11_judged 2 = .ok (.iload_n 2, 1) := dk_28 (fdB_of (k := 0) tX11_judgedf_0 2 28 rfl)
theorem dX11_judged_3 : decode cX11_judged 3 = .ok (.invokevirtual 157, 3) := dk_182 (fdB_of (k := 0) tX11_judgedf_0 3 182 rfl) (fdB_of (k := 0) tX11_judgedf_0 4 0 rfl) (fdB_of (k := 0) tX11_judgedf_0 5 157 rfl)
theorem dX11_judged_6 : decode cX11_judged 6 = .ok (.ifCond .ne 17, 3) := dk_154 (fdB_of (k := 0) tX11_judgedf_0 6 154 rfl) (fdB_of (k := 0) tX11_judgedf_0 7 0 rfl) (fdB_of (k := 0) tX11_judgedf_0 8 17 rfl) (by decide +kernel)
theorem dX11_judged_9 : decode cX11_judged 9 = .ok (.aload_n 0, 1) := dk_42 (fdB_of (k := 0) tX11_judgedf_0 9 42 rfl)
theorem dX11_judged_10 : decode cX11_judged 10 = .ok (.getfield 62, 3) := dk_180 (fdB_of (k := 0) tX11_judgedf_0 10 180 rfl) (fdB_of (k := 0) tX11_judgedf_0 11 0 rfl) (fdB_of (k := 0) tX11_judgedf_0 12 62 rfl)
theorem dX11_judged_13 : decode cX11_judged 13 = .ok (.getfield 127, 3) := dk_180 (fdB_of (k := 0) tX11_judgedf_0 13 180 rfl) (fdB_of (k := 0) tX11_judgedf_0 14 0 rfl) (fdB_of (k := 0) tX11_judgedf_0 15 127 rfl)
theorem dX11_judged_16 : decode cX11_judged 16 = .ok (.iload_n 3, 1) := dk_29 (fdB_of (k := 16) tX11_judgedf_1 0 29 rfl)
theorem dX11_judged_17 : decode cX11_judged 17 = .ok (.invokevirtual 147, 3) := dk_182 (fdB_of (k := 16) tX11_judgedf_1 1 182 rfl) (fdB_of (k := 16) tX11_judgedf_1 2 0 rfl) (fdB_of (k := 16) tX11_judgedf_1 3 147 rfl)
theorem dX11_judged_20 : decode cX11_judged 20 = .ok (.ifCond .ne 5, 3) := dk_154 (fdB_of (k := 16) tX11_judgedf_1 4 154 rfl) (fdB_of (k := 16) tX11_judgedf_1 5 0 rfl) (fdB_of (k := 16) tX11_judgedf_1 6 5 rfl) (by decide +kernel)
theorem dX11_judged_23 : decode cX11_judged 23 = .ok (.iconst (-1), 1) := dk_2 (fdB_of (k := 16) tX11_judgedf_1 7 2 rfl)
theorem dX11_judged_24 : decode cX11_judged 24 = .ok (.ireturn, 1) := dk_172 (fdB_of (k := 16) tX11_judgedf_1 8 172 rfl)
theorem dX11_judged_25 : decode cX11_judged 25 = .ok (.aload_n 0, 1) := dk_42 (fdB_of (k := 16) tX11_judgedf_1 9 42 rfl)
theorem dX11_judged_26 : decode cX11_judged 26 = .ok (.iload_n 1, 1) := dk_27 (fdB_of (k := 16) tX11_judgedf_1 10 27 rfl)
theorem dX11_judged_27 : decode cX11_judged 27 = .ok (.iload_n 2, 1) := dk_28 (fdB_of (k := 16) tX11_judgedf_1 11 28 rfl)
theorem dX11_judged_28 : decode cX11_judged 28 = .ok (.invokevirtual 161, 3) := dk_182 (fdB_of (k := 16) tX11_judgedf_1 12 182 rfl) (fdB_of (k := 16) tX11_judgedf_1 13 0 rfl) (fdB_of (k := 16) tX11_judgedf_1 14 161 rfl)
theorem dX11_judged_31 : decode cX11_judged 31 = .ok (.astore 5, 2) := dk_58 (fdB_of (k := 16) tX11_judgedf_1 15 58 rfl) (fdB_of (k := 32) tX11_judgedf_2 0 5 rfl)
theorem dX11_judged_33 : decode cX11_judged 33 = .ok (.iload 4, 2) := dk_21 (fdB_of (k := 32) tX11_judgedf_2 1 21 rfl) (fdB_of (k := 32) tX11_judgedf_2 2 4 rfl)
theorem dX11_judged_35 : decode cX11_judged 35 = .ok (.tableswitch 95 0 3 #[29, 44, 59, 74], 29) := by decide +kernel
theorem dX11_judged_64 : decode cX11_judged 64 = .ok (.aload 5, 2) := dk_25 (fdB_of (k := 64) tX11_judgedf_4 0 25 rfl) (fdB_of (k := 64) tX11_judgedf_4 1 5 rfl)
theorem dX11_judged_66 : decode cX11_judged 66 = .ok (.iload_n 3, 1) := dk_29 (fdB_of (k := 64) tX11_judgedf_4 2 29 rfl)
theorem dX11_judged_67 : decode cX11_judged 67 = .ok (.invokevirtual 165, 3) := dk_182 (fdB_of (k := 64) tX11_judgedf_4 3 182 rfl) (fdB_of (k := 64) tX11_judgedf_4 4 0 rfl) (fdB_of (k := 64) tX11_judgedf_4 5 165 rfl)
theorem dX11_judged_70 : decode cX11_judged 70 = .ok (.ifCond .eq 7, 3) := dk_153 (fdB_of (k := 64) tX11_judgedf_4 6 153 rfl) (fdB_of (k := 64) tX11_judgedf_4 7 0 rfl) (fdB_of (k := 64) tX11_judgedf_4 8 7 rfl) (by decide +kernel)
theorem dX11_judged_73 : decode cX11_judged 73 = .ok (.iconst 1, 1) := dk_4 (fdB_of (k := 64) tX11_judgedf_4 9 4 rfl)
theorem dX11_judged_74 : decode cX11_judged 74 = .ok (.goto 4, 3) := dk_167 (fdB_of (k := 64) tX11_judgedf_4 10 167 rfl) (fdB_of (k := 64) tX11_judgedf_4 11 0 rfl) (fdB_of (k := 64) tX11_judgedf_4 12 4 rfl) (by decide +kernel)
theorem dX11_judged_77 : decode cX11_judged 77 = .ok (.iconst 0, 1) := dk_3 (fdB_of (k := 64) tX11_judgedf_4 13 3 rfl)
theorem dX11_judged_78 : decode cX11_judged 78 = .ok (.ireturn, 1) := dk_172 (fdB_of (k := 64) tX11_judgedf_4 14 172 rfl)
theorem dX11_judged_79 : decode cX11_judged 79 = .ok (.aload 5, 2) := dk_25 (fdB_of (k := 64) tX11_judgedf_4 15 25 rfl) (fdB_of (k := 80) tX11_judgedf_5 0 5 rfl)
theorem dX11_judged_81 : decode cX11_judged 81 = .ok (.iload_n 3, 1) := dk_29 (fdB_of (k := 80) tX11_judgedf_5 1 29 rfl)
theorem dX11_judged_82 : decode cX11_judged 82 = .ok (.invokevirtual 168, 3) := dk_182 (fdB_of (k := 80) tX11_judgedf_5 2 182 rfl) (fdB_of (k := 80) tX11_judgedf_5 3 0 rfl) (fdB_of (k := 80) tX11_judgedf_5 4 168 rfl)
theorem dX11_judged_85 : decode cX11_judged 85 = .ok (.ifCond .eq 7, 3) := dk_153 (fdB_of (k := 80) tX11_judgedf_5 5 153 rfl) (fdB_of (k := 80) tX11_judgedf_5 6 0 rfl) (fdB_of (k := 80) tX11_judgedf_5 7 7 rfl) (by decide +kernel)
theorem dX11_judged_88 : decode cX11_judged 88 = .ok (.iconst 1, 1) := dk_4 (fdB_of (k := 80) tX11_judgedf_5 8 4 rfl)
theorem dX11_judged_89 : decode cX11_judged 89 = .ok (.goto 4, 3) := dk_167 (fdB_of (k := 80) tX11_judgedf_5 9 167 rfl) (fdB_of (k := 80) tX11_judgedf_5 10 0 rfl) (fdB_of (k := 80) tX11_judgedf_5 11 4 rfl) (by decide +kernel)
theorem dX11_judged_92 : decode cX11_judged 92 = .ok (.iconst 0, 1) := dk_3 (fdB_of (k := 80) tX11_judgedf_5 12 3 rfl)
theorem dX11_judged_93 : decode cX11_judged 93 = .ok (.ireturn, 1) := dk_172 (fdB_of (k := 80) tX11_judgedf_5 13 172 rfl)
theorem dX11_judged_94 : decode cX11_judged 94 = .ok (.aload 5, 2) := dk_25 (fdB_of (k := 80) tX11_judgedf_5 14 25 rfl) (fdB_of (k := 80) tX11_judgedf_5 15 5 rfl)
theorem dX11_judged_96 : decode cX11_judged 96 = .ok (.iload_n 3, 1) := dk_29 (fdB_of (k := 96) tX11_judgedf_6 0 29 rfl)
theorem dX11_judged_97 : decode cX11_judged 97 = .ok (.invokevirtual 171, 3) := dk_182 (fdB_of (k := 96) tX11_judgedf_6 1 182 rfl) (fdB_of (k := 96) tX11_judgedf_6 2 0 rfl) (fdB_of (k := 96) tX11_judgedf_6 3 171 rfl)
theorem dX11_judged_100 : decode cX11_judged 100 = .ok (.ifCond .eq 7, 3) := dk_153 (fdB_of (k := 96) tX11_judgedf_6 4 153 rfl) (fdB_of (k := 96) tX11_judgedf_6 5 0 rfl) (fdB_of (k := 96) tX11_judgedf_6 6 7 rfl) (by decide +kernel)
theorem dX11_judged_103 : decode cX11_judged 103 = .ok (.iconst 1, 1) := dk_4 (fdB_of (k := 96) tX11_judgedf_6 7 4 rfl)
theorem dX11_judged_104 : decode cX11_judged 104 = .ok (.goto 4, 3) := dk_167 (fdB_of (k := 96) tX11_judgedf_6 8 167 rfl) (fdB_of (k := 96) tX11_judgedf_6 9 0 rfl) (fdB_of (k := 96) tX11_judgedf_6 10 4 rfl) (by decide +kernel)
theorem dX11_judged_107 : decode cX11_judged 107 = .ok (.iconst 0, 1) := dk_3 (fdB_of (k := 96) tX11_judgedf_6 11 3 rfl)
theorem dX11_judged_108 : decode cX11_judged 108 = .ok (.ireturn, 1) := dk_172 (fdB_of (k := 96) tX11_judgedf_6 12 172 rfl)
theorem dX11_judged_109 : decode cX11_judged 109 = .ok (.aload 5, 2) := dk_25 (fdB_of (k := 96) tX11_judgedf_6 13 25 rfl) (fdB_of (k := 96) tX11_judgedf_6 14 5 rfl)
theorem dX11_judged_111 : decode cX11_judged 111 = .ok (.iload_n 3, 1) := dk_29 (fdB_of (k := 96) tX11_judgedf_6 15 29 rfl)
theorem dX11_judged_112 : decode cX11_judged 112 = .ok (.invokevirtual 174, 3) := dk_182 (fdB_of (k := 112) tX11_judgedf_7 0 182 rfl) (fdB_of (k := 112) tX11_judgedf_7 1 0 rfl) (fdB_of (k := 112) tX11_judgedf_7 2 174 rfl)
theorem dX11_judged_115 : decode cX11_judged 115 = .ok (.ifCond .eq 12, 3) := dk_153 (fdB_of (k := 112) tX11_judgedf_7 3 153 rfl) (fdB_of (k := 112) tX11_judgedf_7 4 0 rfl) (fdB_of (k := 112) tX11_judgedf_7 5 12 rfl) (by decide +kernel)
theorem dX11_judged_118 : decode cX11_judged 118 = .ok (.aload 5, 2) := dk_25 (fdB_of (k := 112) tX11_judgedf_7 6 25 rfl) (fdB_of (k := 112) tX11_judgedf_7 7 5 rfl)
theorem dX11_judged_120 : decode cX11_judged 120 = .ok (.iload_n 3, 1) := dk_29 (fdB_of (k := 112) tX11_judgedf_7 8 29 rfl)
theorem dX11_judged_121 : decode cX11_judged 121 = .ok (.invokevirtual 177, 3) := dk_182 (fdB_of (k := 112) tX11_judgedf_7 9 182 rfl) (fdB_of (k := 112) tX11_judgedf_7 10 0 rfl) (fdB_of (k := 112) tX11_judgedf_7 11 177 rfl)
theorem dX11_judged_124 : decode cX11_judged 124 = .ok (.goto 5, 3) := dk_167 (fdB_of (k := 112) tX11_judgedf_7 12 167 rfl) (fdB_of (k := 112) tX11_judgedf_7 13 0 rfl) (fdB_of (k := 112) tX11_judgedf_7 14 5 rfl) (by decide +kernel)
theorem dX11_judged_127 : decode cX11_judged 127 = .ok (.bipush (-9), 2) := dk_16 (fdB_of (k := 112) tX11_judgedf_7 15 16 rfl) (fdB_of (k := 128) tX11_judgedf_8 0 247 rfl) (by decide +kernel)
theorem dX11_judged_129 : decode cX11_judged 129 = .ok (.ireturn, 1) := dk_172 (fdB_of (k := 128) tX11_judgedf_8 1 172 rfl)
theorem dX11_judged_130 : decode cX11_judged 130 = .ok (.iconst (-1), 1) := dk_2 (fdB_of (k := 128) tX11_judgedf_8 2 2 rfl)
theorem dX11_judged_131 : decode cX11_judged 131 = .ok (.ireturn, 1) := dk_172 (fdB_of (k := 128) tX11_judgedf_8 3 172 rfl)

theorem q0_3 : Cond.selects RX11 yX11_isNoView yX11_isNoView ∈ TT := tq0 3 rfl rfl
theorem q0_4 : Cond.selects RX11 yX11_view yX11_view ∈ TT := tq0 4 rfl rfl
theorem q1_1 : Cond.initialized RX11 ∈ TT := tq1 1 rfl rfl
theorem q3_111 : Cond.methodLink RX11 157 yX11_isNoView ∈ TT := tq3 111 rfl rfl
theorem q3_113 : Cond.instanceMethod yX11_isNoView ∈ TT := tq3 113 rfl rfl
theorem q3_114 : Cond.code yX11_isNoView cX11_isNoView 3 (some .boolean) ∈ TT := tq3 114 rfl rfl
theorem q3_115 : Cond.methodLink RX11 161 yX11_view ∈ TT := tq3 115 rfl rfl
theorem q3_117 : Cond.instanceMethod yX11_view ∈ TT := tq3 117 rfl rfl
theorem q3_118 : Cond.code yX11_view cX11_view 3 (some (.object "RhymeLaw$Verdict")) ∈ TT := tq3 118 rfl rfl
theorem q3_145 : Cond.methodLink RX11 165 yX9_stands ∈ TT := tq3 145 rfl rfl
theorem q3_146 : Cond.instanceMethod yX9_stands ∈ TT := tq3 146 rfl rfl
theorem q3_147 : Cond.selects RX9 yX9_stands yX9_stands ∈ TT := tq3 147 rfl rfl
theorem q3_148 : Cond.code yX9_stands cX9_stands 2 (some .boolean) ∈ TT := tq3 148 rfl rfl
theorem q3_149 : Cond.methodLink RX11 168 yX9_opens ∈ TT := tq3 149 rfl rfl
theorem q3_150 : Cond.instanceMethod yX9_opens ∈ TT := tq3 150 rfl rfl
theorem q3_151 : Cond.selects RX9 yX9_opens yX9_opens ∈ TT := tq3 151 rfl rfl
theorem q3_152 : Cond.code yX9_opens cX9_opens 2 (some .boolean) ∈ TT := tq3 152 rfl rfl
theorem q3_153 : Cond.methodLink RX11 171 yX9_binds ∈ TT := tq3 153 rfl rfl
theorem q3_157 : Cond.methodLink RX11 174 yX9_rhymed ∈ TT := tq3 157 rfl rfl
theorem q3_161 : Cond.methodLink RX11 177 yX9_anchor ∈ TT := tq3 161 rfl rfl
theorem lk_RX11_157 : vlk RX11 157 yX11_isNoView cX11_isNoView 3 (some .boolean) 2 := ⟨List.forall_mem_cons.mpr ⟨q3_111, List.forall_mem_cons.mpr ⟨q3_113, List.forall_mem_cons.mpr ⟨q0_3, List.forall_mem_cons.mpr ⟨q1_1, fun _ h => absurd h List.not_mem_nil⟩⟩⟩⟩, q3_114, by decide, by decide, by decide +kernel⟩
theorem lk_RX11_161 : vlk RX11 161 yX11_view cX11_view 3 (some (.object "RhymeLaw$Verdict")) 2 := ⟨List.forall_mem_cons.mpr ⟨q3_115, List.forall_mem_cons.mpr ⟨q3_117, List.forall_mem_cons.mpr ⟨q0_4, List.forall_mem_cons.mpr ⟨q1_1, fun _ h => absurd h List.not_mem_nil⟩⟩⟩⟩, q3_118, by decide, by decide, by decide +kernel⟩
theorem lk_RX11_165 : vlk RX11 165 yX9_stands cX9_stands 2 (some .boolean) 1 := ⟨List.forall_mem_cons.mpr ⟨q3_145, List.forall_mem_cons.mpr ⟨q3_146, List.forall_mem_cons.mpr ⟨q3_147, List.forall_mem_cons.mpr ⟨q1_3, fun _ h => absurd h List.not_mem_nil⟩⟩⟩⟩, q3_148, by decide, by decide, by decide +kernel⟩
theorem lk_RX11_168 : vlk RX11 168 yX9_opens cX9_opens 2 (some .boolean) 1 := ⟨List.forall_mem_cons.mpr ⟨q3_149, List.forall_mem_cons.mpr ⟨q3_150, List.forall_mem_cons.mpr ⟨q3_151, List.forall_mem_cons.mpr ⟨q1_3, fun _ h => absurd h List.not_mem_nil⟩⟩⟩⟩, q3_152, by decide, by decide, by decide +kernel⟩
theorem lk_RX11_171 : vlk RX11 171 yX9_binds cX9_binds 2 (some .boolean) 1 := ⟨List.forall_mem_cons.mpr ⟨q3_153, List.forall_mem_cons.mpr ⟨q3_154, List.forall_mem_cons.mpr ⟨q3_155, List.forall_mem_cons.mpr ⟨q1_3, fun _ h => absurd h List.not_mem_nil⟩⟩⟩⟩, q3_156, by decide, by decide, by decide +kernel⟩
theorem lk_RX11_174 : vlk RX11 174 yX9_rhymed cX9_rhymed 2 (some .boolean) 1 := ⟨List.forall_mem_cons.mpr ⟨q3_157, List.forall_mem_cons.mpr ⟨q3_158, List.forall_mem_cons.mpr ⟨q3_159, List.forall_mem_cons.mpr ⟨q1_3, fun _ h => absurd h List.not_mem_nil⟩⟩⟩⟩, q3_160, by decide, by decide, by decide +kernel⟩
theorem lk_RX11_177 : vlk RX11 177 yX9_anchor cX9_anchor 2 (some .int) 1 := ⟨List.forall_mem_cons.mpr ⟨q3_161, List.forall_mem_cons.mpr ⟨q3_162, List.forall_mem_cons.mpr ⟨q3_163, List.forall_mem_cons.mpr ⟨q1_3, fun _ h => absurd h List.not_mem_nil⟩⟩⟩⟩, q3_164, by decide, by decide, by decide +kernel⟩
def F_X11_judged (s_o : S11) (s_o_told : S7) (s_o_verdict : S9) (s_o_told_forms : S1) (s_o_told_paper : S4) (s_o_told_words : S10) (x1 : Int32) (x2 : Int32) (x3 : Int32) (x4 : Int32) : Option (Int32 × S9) := (F_X11_isNoView s_o s_o_told s_o_told_forms x1 x2).bind fun q_1 => (if q_1 = 0 then (F_X4_has s_o_told_paper x3).bind fun q_2 => (if q_2 = 0 then some ((-1), s_o_verdict) else (F_X11_view s_o s_o_told s_o_verdict s_o_told_forms s_o_told_paper s_o_told_words x1 x2).bind fun q_3 => (if x4 = 0 then (F_X9_stands q_3 x3).bind fun q_4 => (if q_4 = 0 then some (0, q_3) else some (1, q_3)) else (if x4 = 1 then (F_X9_opens q_3 x3).bind fun q_5 => (if q_5 = 0 then some (0, q_3) else some (1, q_3)) else (if x4 = 2 then (F_X9_binds q_3 x3).bind fun q_6 => (if q_6 = 0 then some (0, q_3) else some (1, q_3)) else (if x4 = 3 then (F_X9_rhymed q_3 x3).bind fun q_7 => (if q_7 = 0 then some ((-9), q_3) else (F_X9_anchor q_3 x3).bind fun q_8 => some (q_8, q_3)) else some ((-1), q_3)))))) else some ((-1), s_o_verdict))
def w_X11_judged (o o_told o_verdict o_told_forms o_told_paper o_told_words o_text o_trial o_mending o_guess o_choice o_firstImage o_secondImage o_spare o_told_stock : Nat → Nat) (cB cI cJ cZ : ClassId) (s_o : S11) (s_o_told : S7) (s_o_verdict : S9) (s_o_told_forms : S1) (s_o_told_paper : S4) (s_o_told_words : S10) (rf_o_told : Value) (rf_o_spare : Value) : va_W := List.flatten [(gX11 o cB cI cJ cZ (o_text 0) (o_verdict 0) (o_trial 0) (o_mending 0) (o_guess 0) (o_choice 0) (o_firstImage 0) (o_secondImage 0) rf_o_told rf_o_spare s_o), (gX7 o_told cB cI cJ cZ (o_told_words 0) (o_told_forms 0) (o_told_paper 0) (o_told_stock 0) s_o_told), (gX9 o_verdict cB cI cJ cZ s_o_verdict), (gX1 o_told_forms cB cI cJ cZ s_o_told_forms), (gX4 o_told_paper cB cI cJ cZ s_o_told_paper), (gX10 o_told_words cB cI cJ cZ s_o_told_words)]
abbrev rm_X11_judged : Room := { frames := 5, cells := 0, slots := 0, locals := 116 }
set_option maxHeartbeats 4000000 in
set_option maxRecDepth 100000 in
theorem c_X11_judged (l : Launch) (D : gG) (cB cI cJ cZ : ClassId) (o o_told o_verdict o_told_forms o_told_paper o_told_words o_text o_trial o_mending o_guess o_choice o_firstImage o_secondImage o_spare o_told_stock : Nat → Nat) (s_o : S11) (s_o_told : S7) (s_o_verdict : S9) (s_o_told_forms : S1) (s_o_told_paper : S4) (s_o_told_words : S10) (x1 : Int32) (x2 : Int32) (x3 : Int32) (x4 : Int32) (r : Int32 × S9) (hf : F_X11_judged s_o s_o_told s_o_verdict s_o_told_forms s_o_told_paper s_o_told_words x1 x2 x3 x4 = some r) : gM l D (tyL cB cI cJ cZ) yX11_judged cX11_judged 6 (some .int) rm_X11_judged [.ref (o 0), .int x1, .int x2, .int x3, .int x4] (w_X11_judged o o_told o_verdict o_told_forms o_told_paper o_told_words o_text o_trial o_mending o_guess o_choice o_firstImage o_secondImage o_spare o_told_stock cB cI cJ cZ s_o s_o_told s_o_verdict s_o_told_forms s_o_told_paper s_o_told_words (.ref (o_told 0)) (.ref (o_spare 0))) (some (.int r.1)) (w_X11_judged o o_told o_verdict o_told_forms o_told_paper o_told_words o_text o_trial o_mending o_guess o_choice o_firstImage o_secondImage o_spare o_told_stock cB cI cJ cZ s_o s_o_told r.2 s_o_told_forms s_o_told_paper s_o_told_words (.ref (o_told 0)) (.ref (o_spare 0))) := by
  refine met_of (by decide) (Nat.le_of_ble_eq_true rfl) ?_
  intro p e s m args below meth c A cx hr hA
  show gW p l e rm_X11_judged s m args below meth c D A 6 _ 0 0 _ [(0, .ref (o 0)), (1, .int x1), (2, .int x2), (3, .int x3), (4, .int x4)] 0 []
  rw [F_X11_judged] at hf
  refine g_aln cx 0 dX11_judged_0 rfl ?_
  refine g_iln cx 1 dX11_judged_1 rfl ?_
  refine g_iln cx 2 dX11_judged_2 rfl ?_
  refine ob hf (fun q_1 hq_1 hf => ?_)
  refine g_callVGiR cx lk_RX11_157 (c_X11_isNoView l D cB cI cJ cZ o o_told o_told_forms o_text o_verdict o_trial o_mending o_guess o_choice o_firstImage o_secondImage o_spare o_told_words o_told_paper o_told_stock s_o s_o_told s_o_told_forms x1 x2 q_1 hq_1) rfl [0, 1, 3] rfl rfl (ci := 9) (q1 := 0) rfl rfl rfl (Nat.le_of_ble_eq_true rfl) ⟨rfl, rfl, Nat.le_of_ble_eq_true rfl, Nat.le_of_ble_eq_true rfl⟩ dX11_judged_3 ?_
  refine g_if_ne (tgt := 23) cx hf dX11_judged_6 rfl (fun hf => ?_) (fun hf => ?_)
  · refine g_ic cx dX11_judged_23 k_icm1 ?_
    exact g_iret (ovf := fun (r : Int32 × S9) => (some (.int r.1))) (wf := fun (r : Int32 × S9) => (w_X11_judged o o_told o_verdict o_told_forms o_told_paper o_told_words o_text o_trial o_mending o_guess o_choice o_firstImage o_secondImage o_spare o_told_stock cB cI cJ cZ s_o s_o_told r.2 s_o_told_forms s_o_told_paper s_o_told_words (.ref (o_told 0)) (.ref (o_spare 0)))) cx hA hr hf rfl rfl dX11_judged_24
  · refine g_aln cx 0 dX11_judged_9 rfl ?_
    refine fg_RX11_62 cx 0 rfl rfl dX11_judged_10 ?_
    refine fg_RX11_127 cx 1 rfl rfl dX11_judged_13 ?_
    refine g_iln cx 3 dX11_judged_16 rfl ?_
    refine ob hf (fun q_2 hq_2 hf => ?_)
    refine g_callVGiR cx lk_RX11_147 (c_X4_has l D cB cI cJ cZ o_told_paper s_o_told_paper x3 q_2 hq_2) rfl [4] rfl rfl (ci := 4) (q1 := 0) rfl rfl rfl (Nat.le_of_ble_eq_true rfl) ⟨rfl, rfl, Nat.le_of_ble_eq_true rfl, Nat.le_of_ble_eq_true rfl⟩ dX11_judged_17 ?_
    refine g_if_ne (tgt := 25) cx hf dX11_judged_20 rfl (fun hf => ?_) (fun hf => ?_)
    · refine g_aln cx 0 dX11_judged_25 rfl ?_
      refine g_iln cx 1 dX11_judged_26 rfl ?_
      refine g_iln cx 2 dX11_judged_27 rfl ?_
      refine ob hf (fun q_3 hq_3 hf => ?_)
      refine g_callVGr (gs' := [(gX11 o cB cI cJ cZ (o_text 0) (o_verdict 0) (o_trial 0) (o_mending 0) (o_guess 0) (o_choice 0) (o_firstImage 0) (o_secondImage 0) (.ref (o_told 0)) (.ref (o_spare 0)) s_o), (gX7 o_told cB cI cJ cZ (o_told_words 0) (o_told_forms 0) (o_told_paper 0) (o_told_stock 0) s_o_told), (gX9 o_verdict cB cI cJ cZ q_3), (gX1 o_told_forms cB cI cJ cZ s_o_told_forms), (gX4 o_told_paper cB cI cJ cZ s_o_told_paper), (gX10 o_told_words cB cI cJ cZ s_o_told_words)]) cx lk_RX11_161 (c_X11_view l D cB cI cJ cZ o o_told o_verdict o_told_forms o_told_paper o_told_words o_text o_trial o_mending o_guess o_choice o_firstImage o_secondImage o_spare o_told_stock s_o s_o_told s_o_verdict s_o_told_forms s_o_told_paper s_o_told_words x1 x2 q_3 hq_3) rfl [0, 1, 2, 3, 4, 5] rfl rfl rfl rfl (ci := 9) (q1 := 0) rfl rfl rfl (Nat.le_of_ble_eq_true rfl) ⟨rfl, rfl, Nat.le_of_ble_eq_true rfl, Nat.le_of_ble_eq_true rfl⟩ dX11_judged_28 ?_
      refine g_as (L' := [(5, .ref (o_verdict 0)), (0, .ref (o 0)), (1, .int x1), (2, .int x2), (3, .int x3), (4, .int x4)]) cx dX11_judged_31 (Nat.le_of_ble_eq_true rfl) rfl ?_
      refine g_il cx 5 dX11_judged_33 rfl ?_
      by_cases hx0 : x4 = 0
      · rw [if_pos hx0] at hf
        refine g_swIn (tgt := 64) cx 0 hx0 (by decide) dX11_judged_35 (by decide) rfl rfl ?_
        refine g_al cx 0 dX11_judged_64 rfl ?_
        refine g_iln cx 4 dX11_judged_66 rfl ?_
        refine ob hf (fun q_4 hq_4 hf => ?_)
        refine g_callVGiR cx lk_RX11_165 (c_X9_stands l D cB cI cJ cZ o_verdict q_3 x3 q_4 hq_4) rfl [2] rfl rfl (ci := 7) (q1 := 0) rfl rfl rfl (Nat.le_of_ble_eq_true rfl) ⟨rfl, rfl, Nat.le_of_ble_eq_true rfl, Nat.le_of_ble_eq_true rfl⟩ dX11_judged_67 ?_
        refine g_if_eq (tgt := 77) cx hf dX11_judged_70 rfl (fun hf => ?_) (fun hf => ?_)
        · refine g_ic cx dX11_judged_77 k_ic0 ?_
          exact g_iret (ovf := fun (r : Int32 × S9) => (some (.int r.1))) (wf := fun (r : Int32 × S9) => (w_X11_judged o o_told o_verdict o_told_forms o_told_paper o_told_words o_text o_trial o_mending o_guess o_choice o_firstImage o_secondImage o_spare o_told_stock cB cI cJ cZ s_o s_o_told r.2 s_o_told_forms s_o_told_paper s_o_told_words (.ref (o_told 0)) (.ref (o_spare 0)))) cx hA hr hf rfl rfl dX11_judged_78
        · refine g_ic cx dX11_judged_73 k_ic1 ?_
          refine g_goto (tgt := 78) cx dX11_judged_74 rfl ?_
          exact g_iret (ovf := fun (r : Int32 × S9) => (some (.int r.1))) (wf := fun (r : Int32 × S9) => (w_X11_judged o o_told o_verdict o_told_forms o_told_paper o_told_words o_text o_trial o_mending o_guess o_choice o_firstImage o_secondImage o_spare o_told_stock cB cI cJ cZ s_o s_o_told r.2 s_o_told_forms s_o_told_paper s_o_told_words (.ref (o_told 0)) (.ref (o_spare 0)))) cx hA hr hf rfl rfl dX11_judged_78
      rw [if_neg hx0] at hf
      by_cases hx1 : x4 = 1
      · rw [if_pos hx1] at hf
        refine g_swIn (tgt := 79) cx 1 hx1 (by decide) dX11_judged_35 (by decide) rfl rfl ?_
        refine g_al cx 0 dX11_judged_79 rfl ?_
        refine g_iln cx 4 dX11_judged_81 rfl ?_
        refine ob hf (fun q_5 hq_5 hf => ?_)
        refine g_callVGiR cx lk_RX11_168 (c_X9_opens l D cB cI cJ cZ o_verdict q_3 x3 q_5 hq_5) rfl [2] rfl rfl (ci := 7) (q1 := 0) rfl rfl rfl (Nat.le_of_ble_eq_true rfl) ⟨rfl, rfl, Nat.le_of_ble_eq_true rfl, Nat.le_of_ble_eq_true rfl⟩ dX11_judged_82 ?_
        refine g_if_eq (tgt := 92) cx hf dX11_judged_85 rfl (fun hf => ?_) (fun hf => ?_)
        · refine g_ic cx dX11_judged_92 k_ic0 ?_
          exact g_iret (ovf := fun (r : Int32 × S9) => (some (.int r.1))) (wf := fun (r : Int32 × S9) => (w_X11_judged o o_told o_verdict o_told_forms o_told_paper o_told_words o_text o_trial o_mending o_guess o_choice o_firstImage o_secondImage o_spare o_told_stock cB cI cJ cZ s_o s_o_told r.2 s_o_told_forms s_o_told_paper s_o_told_words (.ref (o_told 0)) (.ref (o_spare 0)))) cx hA hr hf rfl rfl dX11_judged_93
        · refine g_ic cx dX11_judged_88 k_ic1 ?_
          refine g_goto (tgt := 93) cx dX11_judged_89 rfl ?_
          exact g_iret (ovf := fun (r : Int32 × S9) => (some (.int r.1))) (wf := fun (r : Int32 × S9) => (w_X11_judged o o_told o_verdict o_told_forms o_told_paper o_told_words o_text o_trial o_mending o_guess o_choice o_firstImage o_secondImage o_spare o_told_stock cB cI cJ cZ s_o s_o_told r.2 s_o_told_forms s_o_told_paper s_o_told_words (.ref (o_told 0)) (.ref (o_spare 0)))) cx hA hr hf rfl rfl dX11_judged_93
      rw [if_neg hx1] at hf
      by_cases hx2 : x4 = 2
      · rw [if_pos hx2] at hf
        refine g_swIn (tgt := 94) cx 2 hx2 (by decide) dX11_judged_35 (by decide) rfl rfl ?_
        refine g_al cx 0 dX11_judged_94 rfl ?_
        refine g_iln cx 4 dX11_judged_96 rfl ?_
        refine ob hf (fun q_6 hq_6 hf => ?_)
        refine g_callVGiR cx lk_RX11_171 (c_X9_binds l D cB cI cJ cZ o_verdict q_3 x3 q_6 hq_6) rfl [2] rfl rfl (ci := 7) (q1 := 0) rfl rfl rfl (Nat.le_of_ble_eq_true rfl) ⟨rfl, rfl, Nat.le_of_ble_eq_true rfl, Nat.le_of_ble_eq_true rfl⟩ dX11_judged_97 ?_
        refine g_if_eq (tgt := 107) cx hf dX11_judged_100 rfl (fun hf => ?_) (fun hf => ?_)
        · refine g_ic cx dX11_judged_107 k_ic0 ?_
          exact g_iret (ovf := fun (r : Int32 × S9) => (some (.int r.1))) (wf := fun (r : Int32 × S9) => (w_X11_judged o o_told o_verdict o_told_forms o_told_paper o_told_words o_text o_trial o_mending o_guess o_choice o_firstImage o_secondImage o_spare o_told_stock cB cI cJ cZ s_o s_o_told r.2 s_o_told_forms s_o_told_paper s_o_told_words (.ref (o_told 0)) (.ref (o_spare 0)))) cx hA hr hf rfl rfl dX11_judged_108
        · refine g_ic cx dX11_judged_103 k_ic1 ?_
          refine g_goto (tgt := 108) cx dX11_judged_104 rfl ?_
          exact g_iret (ovf := fun (r : Int32 × S9) => (some (.int r.1))) (wf := fun (r : Int32 × S9) => (w_X11_judged o o_told o_verdict o_told_forms o_told_paper o_told_words o_text o_trial o_mending o_guess o_choice o_firstImage o_secondImage o_spare o_told_stock cB cI cJ cZ s_o s_o_told r.2 s_o_told_forms s_o_told_paper s_o_told_words (.ref (o_told 0)) (.ref (o_spare 0)))) cx hA hr hf rfl rfl dX11_judged_108
      rw [if_neg hx2] at hf
      by_cases hx3 : x4 = 3
      · rw [if_pos hx3] at hf
        refine g_swIn (tgt := 109) cx 3 hx3 (by decide) dX11_judged_35 (by decide) rfl rfl ?_
        refine g_al cx 0 dX11_judged_109 rfl ?_
        refine g_iln cx 4 dX11_judged_111 rfl ?_
        refine ob hf (fun q_7 hq_7 hf => ?_)
        refine g_callVGiR cx lk_RX11_174 (c_X9_rhymed l D cB cI cJ cZ o_verdict q_3 x3 q_7 hq_7) rfl [2] rfl rfl (ci := 7) (q1 := 0) rfl rfl rfl (Nat.le_of_ble_eq_true rfl) ⟨rfl, rfl, Nat.le_of_ble_eq_true rfl, Nat.le_of_ble_eq_true rfl⟩ dX11_judged_112 ?_
        refine g_if_eq (tgt := 127) cx hf dX11_judged_115 rfl (fun hf => ?_) (fun hf => ?_)
        · refine g_bp cx dX11_judged_127 k_bpm9 ?_
          exact g_iret (ovf := fun (r : Int32 × S9) => (some (.int r.1))) (wf := fun (r : Int32 × S9) => (w_X11_judged o o_told o_verdict o_told_forms o_told_paper o_told_words o_text o_trial o_mending o_guess o_choice o_firstImage o_secondImage o_spare o_told_stock cB cI cJ cZ s_o s_o_told r.2 s_o_told_forms s_o_told_paper s_o_told_words (.ref (o_told 0)) (.ref (o_spare 0)))) cx hA hr hf rfl rfl dX11_judged_129
        · refine g_al cx 0 dX11_judged_118 rfl ?_
          refine g_iln cx 4 dX11_judged_120 rfl ?_
          refine ob hf (fun q_8 hq_8 hf => ?_)
          refine g_callVGiR cx lk_RX11_177 (c_X9_anchor l D cB cI cJ cZ o_verdict q_3 x3 q_8 hq_8) rfl [2] rfl rfl (ci := 7) (q1 := 0) rfl rfl rfl (Nat.le_of_ble_eq_true rfl) ⟨rfl, rfl, Nat.le_of_ble_eq_true rfl, Nat.le_of_ble_eq_true rfl⟩ dX11_judged_121 ?_
          refine g_goto (tgt := 129) cx dX11_judged_124 rfl ?_
          exact g_iret (ovf := fun (r : Int32 × S9) => (some (.int r.1))) (wf := fun (r : Int32 × S9) => (w_X11_judged o o_told o_verdict o_told_forms o_told_paper o_told_words o_text o_trial o_mending o_guess o_choice o_firstImage o_secondImage o_spare o_told_stock cB cI cJ cZ s_o s_o_told r.2 s_o_told_forms s_o_told_paper s_o_told_words (.ref (o_told 0)) (.ref (o_spare 0)))) cx hA hr hf rfl rfl dX11_judged_129
      rw [if_neg hx3] at hf
      refine g_swOut (tgt := 130) cx 3 (sw_3 hx0 hx1 hx2 hx3) dX11_judged_35 rfl ?_
      refine g_ic cx dX11_judged_130 k_icm1 ?_
      exact g_iret (ovf := fun (r : Int32 × S9) => (some (.int r.1))) (wf := fun (r : Int32 × S9) => (w_X11_judged o o_told o_verdict o_told_forms o_told_paper o_told_words o_text o_trial o_mending o_guess o_choice o_firstImage o_secondImage o_spare o_told_stock cB cI cJ cZ s_o s_o_told r.2 s_o_told_forms s_o_told_paper s_o_told_words (.ref (o_told 0)) (.ref (o_spare 0)))) cx hA hr hf rfl rfl dX11_judged_131
    · refine g_ic cx dX11_judged_23 k_icm1 ?_
      exact g_iret (ovf := fun (r : Int32 × S9) => (some (.int r.1))) (wf := fun (r : Int32 × S9) => (w_X11_judged o o_told o_verdict o_told_forms o_told_paper o_told_words o_text o_trial o_mending o_guess o_choice o_firstImage o_secondImage o_spare o_told_stock cB cI cJ cZ s_o s_o_told r.2 s_o_told_forms s_o_told_paper s_o_told_words (.ref (o_told 0)) (.ref (o_spare 0)))) cx hA hr hf rfl rfl dX11_judged_24
