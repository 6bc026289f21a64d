theorem dX11_law_0 : decode cX11_law 0 = .ok (.aload_n 0, 1) := by decide +kernel
theorem dX11_law_1 : decode cX11_law 1 = .ok (.iload_n 1, 1) := by decide +kernel
theorem dX11_law_2 : decode cX11_law 2 = .ok (.iload_n 2, 1) := by decide +kernel
theorem dX11_law_3 : decode cX11_law 3 = .ok (.invokevirtual 157, 3) := by decide +kernel
theorem dX11_law_6 : decode cX11_law 6 = .ok (.ifCond .eq 5, 3) := by decide +kernel
theorem dX11_law_9 : decode cX11_law 9 = .ok (.iconst (-1), 1) := by decide +kernel
theorem dX11_law_10 : decode cX11_law 10 = .ok (.ireturn, 1) := by decide +kernel
theorem dX11_law_11 : decode cX11_law 11 = .ok (.aload_n 0, 1) := by decide +kernel
theorem dX11_law_12 : decode cX11_law 12 = .ok (.iload_n 1, 1) := by decide +kernel
theorem dX11_law_13 : decode cX11_law 13 = .ok (.iload_n 2, 1) := by decide +kernel
theorem dX11_law_14 : decode cX11_law 14 = .ok (.invokevirtual 161, 3) := by decide +kernel
theorem dX11_law_17 : decode cX11_law 17 = .ok (.invokevirtual 180, 3) := by decide +kernel
theorem dX11_law_20 : decode cX11_law 20 = .ok (.ifCond .eq 7, 3) := by decide +kernel
theorem dX11_law_23 : decode cX11_law 23 = .ok (.iconst 1, 1) := by decide +kernel
theorem dX11_law_24 : decode cX11_law 24 = .ok (.goto 4, 3) := by decide +kernel
theorem dX11_law_27 : decode cX11_law 27 = .ok (.iconst 0, 1) := by decide +kernel
theorem dX11_law_28 : decode cX11_law 28 = .ok (.ireturn, 1) := by decide +kernel
theorem q3_169 : Cond.methodLink RX11 180 yX9_isLaw ∈ TT := tq3 169 rfl rfl
theorem q3_170 : Cond.instanceMethod yX9_isLaw ∈ TT := tq3 170 rfl rfl
theorem q3_171 : Cond.selects RX9 yX9_isLaw yX9_isLaw ∈ TT := tq3 171 rfl rfl
theorem q3_172 : Cond.code yX9_isLaw cX9_isLaw 1 (some .boolean) ∈ TT := tq3 172 rfl rfl
theorem lk_RX11_180 : vlk RX11 180 yX9_isLaw cX9_isLaw 1 (some .boolean) 0 := ⟨List.forall_mem_cons.mpr ⟨q3_169, List.forall_mem_cons.mpr ⟨q3_170, List.forall_mem_cons.mpr ⟨q3_171, List.forall_mem_cons.mpr ⟨q1_3, fun _ h => absurd h List.not_mem_nil⟩⟩⟩⟩, q3_172, by decide, by decide, by decide +kernel⟩
def F_X11_law (s_o : S11) (s_o_told : S7) (s_o_verdict : S9) (s_o_told_forms : S1) (s_o_told_paper : S4) (s_o_told_words : S10) (x1 : Int32) (x2 : Int32) : Option (Int32 × S9) := (F_X11_isNoView s_o s_o_told s_o_told_forms x1 x2).bind fun q_1 => (if q_1 = 0 then (F_X11_view s_o s_o_told s_o_verdict s_o_told_forms s_o_told_paper s_o_told_words x1 x2).bind fun q_2 => (F_X9_isLaw q_2).bind fun q_3 => (if q_3 = 0 then some (0, q_2) else some (1, q_2)) else some ((-1), s_o_verdict))
def w_X11_law (o o_told o_verdict o_told_forms o_told_paper o_told_words o_text o_trial o_mending o_guess o_choice o_firstImage o_secondImage o_spare o_told_stock : Nat → Nat) (cB cI cJ cZ : ClassId) (s_o : S11) (s_o_told : S7) (s_o_verdict : S9) (s_o_told_forms : S1) (s_o_told_paper : S4) (s_o_told_words : S10) (rf_o_told : Value) (rf_o_spare : Value) : va_W := List.flatten [(gX11 o cB cI cJ cZ (o_text 0) (o_verdict 0) (o_trial 0) (o_mending 0) (o_guess 0) (o_choice 0) (o_firstImage 0) (o_secondImage 0) rf_o_told rf_o_spare s_o), (gX7 o_told cB cI cJ cZ (o_told_words 0) (o_told_forms 0) (o_told_paper 0) (o_told_stock 0) s_o_told), (gX9 o_verdict cB cI cJ cZ s_o_verdict), (gX1 o_told_forms cB cI cJ cZ s_o_told_forms), (gX4 o_told_paper cB cI cJ cZ s_o_told_paper), (gX10 o_told_words cB cI cJ cZ s_o_told_words)]
abbrev rm_X11_law : Room := { frames := 5, cells := 0, slots := 0, locals := 116 }
set_option maxHeartbeats 4000000 in
set_option maxRecDepth 100000 in
theorem c_X11_law (l : Launch) (D : gG) (cB cI cJ cZ : ClassId) (o o_told o_verdict o_told_forms o_told_paper o_told_words o_text o_trial o_mending o_guess o_choice o_firstImage o_secondImage o_spare o_told_stock : Nat → Nat) (s_o : S11) (s_o_told : S7) (s_o_verdict : S9) (s_o_told_forms : S1) (s_o_told_paper : S4) (s_o_told_words : S10) (x1 : Int32) (x2 : Int32) (r : Int32 × S9) (hf : F_X11_law s_o s_o_told s_o_verdict s_o_told_forms s_o_told_paper s_o_told_words x1 x2 = some r) : gM l D (tyL cB cI cJ cZ) yX11_law cX11_law 3 (some .int) rm_X11_law [.ref (o 0), .int x1, .int x2] (w_X11_law o o_told o_verdict o_told_forms o_told_paper o_told_words o_text o_trial o_mending o_guess o_choice o_firstImage o_secondImage o_spare o_told_stock cB cI cJ cZ s_o s_o_told s_o_verdict s_o_told_forms s_o_told_paper s_o_told_words (.ref (o_told 0)) (.ref (o_spare 0))) (some (.int r.1)) (w_X11_law o o_told o_verdict o_told_forms o_told_paper o_told_words o_text o_trial o_mending o_guess o_choice o_firstImage o_secondImage o_spare o_told_stock cB cI cJ cZ s_o s_o_told r.2 s_o_told_forms s_o_told_paper s_o_told_words (.ref (o_told 0)) (.ref (o_spare 0))) := by
  refine met_of (by decide) (Nat.le_of_ble_eq_true rfl) ?_
  intro p e s m args below meth c A cx hr hA
  show gW p l e rm_X11_law s m args below meth c D A 3 _ 0 0 _ [(0, .ref (o 0)), (1, .int x1), (2, .int x2)] 0 []
  rw [F_X11_law] at hf
  refine g_aln cx 0 dX11_law_0 rfl ?_
  refine g_iln cx 1 dX11_law_1 rfl ?_
  refine g_iln cx 2 dX11_law_2 rfl ?_
  refine ob hf (fun q_1 hq_1 hf => ?_)
  refine g_callVGiR cx lk_RX11_157 (c_X11_isNoView l D cB cI cJ cZ o o_told o_told_forms o_text o_verdict o_trial o_mending o_guess o_choice o_firstImage o_secondImage o_spare o_told_words o_told_paper o_told_stock s_o s_o_told s_o_told_forms x1 x2 q_1 hq_1) rfl [0, 1, 3] rfl rfl (ci := 9) (q1 := 0) rfl rfl rfl (Nat.le_of_ble_eq_true rfl) ⟨rfl, rfl, Nat.le_of_ble_eq_true rfl, Nat.le_of_ble_eq_true rfl⟩ dX11_law_3 ?_
  refine g_if_eq (tgt := 11) cx hf dX11_law_6 rfl (fun hf => ?_) (fun hf => ?_)
  · refine g_aln cx 0 dX11_law_11 rfl ?_
    refine g_iln cx 1 dX11_law_12 rfl ?_
    refine g_iln cx 2 dX11_law_13 rfl ?_
    refine ob hf (fun q_2 hq_2 hf => ?_)
    refine g_callVGr (gs' := [(gX11 o cB cI cJ cZ (o_text 0) (o_verdict 0) (o_trial 0) (o_mending 0) (o_guess 0) (o_choice 0) (o_firstImage 0) (o_secondImage 0) (.ref (o_told 0)) (.ref (o_spare 0)) s_o), (gX7 o_told cB cI cJ cZ (o_told_words 0) (o_told_forms 0) (o_told_paper 0) (o_told_stock 0) s_o_told), (gX9 o_verdict cB cI cJ cZ q_2), (gX1 o_told_forms cB cI cJ cZ s_o_told_forms), (gX4 o_told_paper cB cI cJ cZ s_o_told_paper), (gX10 o_told_words cB cI cJ cZ s_o_told_words)]) cx lk_RX11_161 (c_X11_view l D cB cI cJ cZ o o_told o_verdict o_told_forms o_told_paper o_told_words o_text o_trial o_mending o_guess o_choice o_firstImage o_secondImage o_spare o_told_stock s_o s_o_told s_o_verdict s_o_told_forms s_o_told_paper s_o_told_words x1 x2 q_2 hq_2) rfl [0, 1, 2, 3, 4, 5] rfl rfl rfl rfl (ci := 9) (q1 := 0) rfl rfl rfl (Nat.le_of_ble_eq_true rfl) ⟨rfl, rfl, Nat.le_of_ble_eq_true rfl, Nat.le_of_ble_eq_true rfl⟩ dX11_law_14 ?_
    refine ob hf (fun q_3 hq_3 hf => ?_)
    refine g_callVGiR cx lk_RX11_180 (c_X9_isLaw l D cB cI cJ cZ o_verdict q_2 q_3 hq_3) rfl [2] rfl rfl (ci := 7) (q1 := 0) rfl rfl rfl (Nat.le_of_ble_eq_true rfl) ⟨rfl, rfl, Nat.le_of_ble_eq_true rfl, Nat.le_of_ble_eq_true rfl⟩ dX11_law_17 ?_
    refine g_if_eq (tgt := 27) cx hf dX11_law_20 rfl (fun hf => ?_) (fun hf => ?_)
    · refine g_ic cx dX11_law_27 k_ic0 ?_
      exact g_iret (ovf := fun (r : Int32 × S9) => (some (.int r.1))) (wf := fun (r : Int32 × S9) => (w_X11_law o o_told o_verdict o_told_forms o_told_paper o_told_words o_text o_trial o_mending o_guess o_choice o_firstImage o_secondImage o_spare o_told_stock cB cI cJ cZ s_o s_o_told r.2 s_o_told_forms s_o_told_paper s_o_told_words (.ref (o_told 0)) (.ref (o_spare 0)))) cx hA hr hf rfl rfl dX11_law_28
    · refine g_ic cx dX11_law_23 k_ic1 ?_
      refine g_goto (tgt := 28) cx dX11_law_24 rfl ?_
      exact g_iret (ovf := fun (r : Int32 × S9) => (some (.int r.1))) (wf := fun (r : Int32 × S9) => (w_X11_law o o_told o_verdict o_told_forms o_told_paper o_told_words o_text o_trial o_mending o_guess o_choice o_firstImage o_secondImage o_spare o_told_stock cB cI cJ cZ s_o s_o_told r.2 s_o_told_forms s_o_told_paper s_o_told_words (.ref (o_told 0)) (.ref (o_spare 0)))) cx hA hr hf rfl rfl dX11_law_28
  · refine g_ic cx dX11_law_9 k_icm1 ?_
    exact g_iret (ovf := fun (r : Int32 × S9) => (some (.int r.1))) (wf := fun (r : Int32 × S9) => (w_X11_law o o_told o_verdict o_told_forms o_told_paper o_told_words o_text o_trial o_mending o_guess o_choice o_firstImage o_secondImage o_spare o_told_stock cB cI cJ cZ s_o s_o_told r.2 s_o_told_forms s_o_told_paper s_o_told_words (.ref (o_told 0)) (.ref (o_spare 0)))) cx hA hr hf rfl rfl dX11_law_10
theorem dX11_empty_0 : decode cX11_empty 0 = .ok (.aload_n 0, 1) := by decide +kernel
theorem dX11_empty_1 : decode cX11_empty 1 = .ok (.iload_n 1, 1) := by decide +kernel
theorem dX11_empty_2 : decode cX11_empty 2 = .ok (.iload_n 2, 1) := by decide +kernel
theorem dX11_empty_3 : decode cX11_empty 3 = .ok (.invokevirtual 157, 3) := by decide +kernel
theorem dX11_empty_6 : decode cX11_empty 6 = .ok (.ifCond .eq 5, 3) := by decide +kernel
theorem dX11_empty_9 : decode cX11_empty 9 = .ok (.iconst (-1), 1) := by decide +kernel
theorem dX11_empty_10 : decode cX11_empty 10 = .ok (.ireturn, 1) := by decide +kernel
theorem dX11_empty_11 : decode cX11_empty 11 = .ok (.aload_n 0, 1) := by decide +kernel
theorem dX11_empty_12 : decode cX11_empty 12 = .ok (.iload_n 1, 1) := by decide +kernel
theorem dX11_empty_13 : decode cX11_empty 13 = .ok (.iload_n 2, 1) := by decide +kernel
theorem dX11_empty_14 : decode cX11_empty 14 = .ok (.invokevirtual 161, 3) := by decide +kernel
theorem dX11_empty_17 : decode cX11_empty 17 = .ok (.invokevirtual 183, 3) := by decide +kernel
theorem dX11_empty_20 : decode cX11_empty 20 = .ok (.ireturn, 1) := by decide +kernel
theorem q3_177 : Cond.methodLink RX11 183 yX9_firstLoose ∈ TT := tq3 177 rfl rfl
theorem q3_178 : Cond.instanceMethod yX9_firstLoose ∈ TT := tq3 178 rfl rfl
theorem q3_179 : Cond.selects RX9 yX9_firstLoose yX9_firstLoose ∈ TT := tq3 179 rfl rfl
theorem q3_180 : Cond.code yX9_firstLoose cX9_firstLoose 2 (some .int) ∈ TT := tq3 180 rfl rfl
theorem lk_RX11_183 : vlk RX11 183 yX9_firstLoose cX9_firstLoose 2 (some .int) 0 := ⟨List.forall_mem_cons.mpr ⟨q3_177, List.forall_mem_cons.mpr ⟨q3_178, List.forall_mem_cons.mpr ⟨q3_179, List.forall_mem_cons.mpr ⟨q1_3, fun _ h => absurd h List.not_mem_nil⟩⟩⟩⟩, q3_180, by decide, by decide, by decide +kernel⟩
def F_X11_empty (s_o : S11) (s_o_told : S7) (s_o_verdict : S9) (s_o_told_forms : S1) (s_o_told_paper : S4) (s_o_told_words : S10) (x1 : Int32) (x2 : Int32) : Option (Int32 × S9) := (F_X11_isNoView s_o s_o_told s_o_told_forms x1 x2).bind fun q_1 => (if q_1 = 0 then (F_X11_view s_o s_o_told s_o_verdict s_o_told_forms s_o_told_paper s_o_told_words x1 x2).bind fun q_2 => (F_X9_firstLoose q_2).bind fun q_3 => some (q_3, q_2) else some ((-1), s_o_verdict))
def w_X11_empty (o o_told o_verdict o_told_forms o_told_paper o_told_words o_text o_trial o_mending o_guess o_choice o_firstImage o_secondImage o_spare o_told_stock : Nat → Nat) (cB cI cJ cZ : ClassId) (s_o : S11) (s_o_told : S7) (s_o_verdict : S9) (s_o_told_forms : S1) (s_o_told_paper : S4) (s_o_told_words : S10) (rf_o_told : Value) (rf_o_spare : Value) : va_W := List.flatten [(gX11 o cB cI cJ cZ (o_text 0) (o_verdict 0) (o_trial 0) (o_mending 0) (o_guess 0) (o_choice 0) (o_firstImage 0) (o_secondImage 0) rf_o_told rf_o_spare s_o), (gX7 o_told cB cI cJ cZ (o_told_words 0) (o_told_forms 0) (o_told_paper 0) (o_told_stock 0) s_o_told), (gX9 o_verdict cB cI cJ cZ s_o_verdict), (gX1 o_told_forms cB cI cJ cZ s_o_told_forms), (gX4 o_told_paper cB cI cJ cZ s_o_told_paper), (gX10 o_told_words cB cI cJ cZ s_o_told_words)]
abbrev rm_X11_empty : Room := { frames := 5, cells := 0, slots := 0, locals := 116 }
set_option maxHeartbeats 4000000 in
set_option maxRecDepth 100000 in
theorem c_X11_empty (l : Launch) (D : gG) (cB cI cJ cZ : ClassId) (o o_told o_verdict o_told_forms o_told_paper o_told_words o_text o_trial o_mending o_guess o_choice o_firstImage o_secondImage o_spare o_told_stock : Nat → Nat) (s_o : S11) (s_o_told : S7) (s_o_verdict : S9) (s_o_told_forms : S1) (s_o_told_paper : S4) (s_o_told_words : S10) (x1 : Int32) (x2 : Int32) (r : Int32 × S9) (hf : F_X11_empty s_o s_o_told s_o_verdict s_o_told_forms s_o_told_paper s_o_told_words x1 x2 = some r) : gM l D (tyL cB cI cJ cZ) yX11_empty cX11_empty 3 (some .int) rm_X11_empty [.ref (o 0), .int x1, .int x2] (w_X11_empty o o_told o_verdict o_told_forms o_told_paper o_told_words o_text o_trial o_mending o_guess o_choice o_firstImage o_secondImage o_spare o_told_stock cB cI cJ cZ s_o s_o_told s_o_verdict s_o_told_forms s_o_told_paper s_o_told_words (.ref (o_told 0)) (.ref (o_spare 0))) (some (.int r.1)) (w_X11_empty o o_told o_verdict o_told_forms o_told_paper o_told_words o_text o_trial o_mending o_guess o_choice o_firstImage o_secondImage o_spare o_told_stock cB cI cJ cZ s_o s_o_told r.2 s_o_told_forms s_o_told_paper s_o_told_words (.ref (o_told 0)) (.ref (o_spare 0))) := by
  refine met_of (by decide) (Nat.le_of_ble_eq_true rfl) ?_
  intro p e s m args below meth c A cx hr hA
  show gW p l e rm_X11_empty s m args below meth c D A 3 _ 0 0 _ [(0, .ref (o 0)), (1, .int x1), (2, .int x2)] 0 []
  rw [F_X11_empty] at hf
  refine g_aln cx 0 dX11_empty_0 rfl ?_
  refine g_iln cx 1 dX11_empty_1 rfl ?_
  refine g_iln cx 2 dX11_empty_2 rfl ?_
  refine ob hf (fun q_1 hq_1 hf => ?_)
  refine g_callVGiR cx lk_RX11_157 (c_X11_isNoView l D cB cI cJ cZ o o_told o_told_forms o_text o_verdict o_trial o_mending o_guess o_choice o_firstImage o_secondImage o_spare o_told_words o_told_paper o_told_stock s_o s_o_told s_o_told_forms x1 x2 q_1 hq_1) rfl [0, 1, 3] rfl rfl (ci := 9) (q1 := 0) rfl rfl rfl (Nat.le_of_ble_eq_true rfl) ⟨rfl, rfl, Nat.le_of_ble_eq_true rfl, Nat.le_of_ble_eq_true rfl⟩ dX11_empty_3 ?_
  refine g_if_eq (tgt := 11) cx hf dX11_empty_6 rfl (fun hf => ?_) (fun hf => ?_)
  · refine g_aln cx 0 dX11_empty_11 rfl ?_
    refine g_iln cx 1 dX11_empty_12 rfl ?_
    refine g_iln cx 2 dX11_empty_13 rfl ?_
    refine ob hf (fun q_2 hq_2 hf => ?_)
    refine g_callVGr (gs' := [(gX11 o cB cI cJ cZ (o_text 0) (o_verdict 0) (o_trial 0) (o_mending 0) (o_guess 0) (o_choice 0) (o_firstImage 0) (o_secondImage 0) (.ref (o_told 0)) (.ref (o_spare 0)) s_o), (gX7 o_told cB cI cJ cZ (o_told_words 0) (o_told_forms 0) (o_told_paper 0) (o_told_stock 0) s_o_told), (gX9 o_verdict cB cI cJ cZ q_2), (gX1 o_told_forms cB cI cJ cZ s_o_told_forms), (gX4 o_told_paper cB cI cJ cZ s_o_told_paper), (gX10 o_told_words cB cI cJ cZ s_o_told_words)]) cx lk_RX11_161 (c_X11_view l D cB cI cJ cZ o o_told o_verdict o_told_forms o_told_paper o_told_words o_text o_trial o_mending o_guess o_choice o_firstImage o_secondImage o_spare o_told_stock s_o s_o_told s_o_verdict s_o_told_forms s_o_told_paper s_o_told_words x1 x2 q_2 hq_2) rfl [0, 1, 2, 3, 4, 5] rfl rfl rfl rfl (ci := 9) (q1 := 0) rfl rfl rfl (Nat.le_of_ble_eq_true rfl) ⟨rfl, rfl, Nat.le_of_ble_eq_true rfl, Nat.le_of_ble_eq_true rfl⟩ dX11_empty_14 ?_
    refine ob hf (fun q_3 hq_3 hf => ?_)
    refine g_callVGiR cx lk_RX11_183 (c_X9_firstLoose l D cB cI cJ cZ o_verdict q_2 q_3 hq_3) rfl [2] rfl rfl (ci := 7) (q1 := 0) rfl rfl rfl (Nat.le_of_ble_eq_true rfl) ⟨rfl, rfl, Nat.le_of_ble_eq_true rfl, Nat.le_of_ble_eq_true rfl⟩ dX11_empty_17 ?_
    exact g_iret (ovf := fun (r : Int32 × S9) => (some (.int r.1))) (wf := fun (r : Int32 × S9) => (w_X11_empty o o_told o_verdict o_told_forms o_told_paper o_told_words o_text o_trial o_mending o_guess o_choice o_firstImage o_secondImage o_spare o_told_stock cB cI cJ cZ s_o s_o_told r.2 s_o_told_forms s_o_told_paper s_o_told_words (.ref (o_told 0)) (.ref (o_spare 0)))) cx hA hr hf rfl rfl dX11_empty_20
  · refine g_ic cx dX11_empty_9 k_icm1 ?_
    exact g_iret (ovf := fun (r : Int32 × S9) => (some (.int r.1))) (wf := fun (r : Int32 × S9) => (w_X11_empty o o_told o_verdict o_told_forms o_told_paper o_told_words o_text o_trial o_mending o_guess o_choice o_firstImage o_secondImage o_spare o_told_stock cB cI cJ cZ s_o s_o_told r.2 s_o_told_forms s_o_told_paper s_o_told_words (.ref (o_told 0)) (.ref (o_spare 0)))) cx hA hr hf rfl rfl dX11_empty_10
theorem dX11_bound_0 : decode cX11_bound 0 = .ok (.aload_n 0, 1) := by decide +kernel
theorem dX11_bound_1 : decode cX11_bound 1 = .ok (.iload_n 1, 1) := by decide +kernel
theorem dX11_bound_2 : decode cX11_bound 2 = .ok (.iload_n 2, 1) := by decide +kernel
theorem dX11_bound_3 : decode cX11_bound 3 = .ok (.invokevirtual 157, 3) := by decide +kernel
theorem dX11_bound_6 : decode cX11_bound 6 = .ok (.ifCond .eq 5, 3) := by decide +kernel
theorem dX11_bound_9 : decode cX11_bound 9 = .ok (.iconst (-1), 1) := by decide +kernel
theorem dX11_bound_10 : decode cX11_bound 10 = .ok (.ireturn, 1) := by decide +kernel
theorem dX11_bound_11 : decode cX11_bound 11 = .ok (.aload_n 0, 1) := by decide +kernel
theorem dX11_bound_12 : decode cX11_bound 12 = .ok (.iload_n 1, 1) := by decide +kernel
theorem dX11_bound_13 : decode cX11_bound 13 = .ok (.iload_n 2, 1) := by decide +kernel
theorem dX11_bound_14 : decode cX11_bound 14 = .ok (.invokevirtual 161, 3) := by decide +kernel
theorem dX11_bound_17 : decode cX11_bound 17 = .ok (.aload_n 0, 1) := by decide +kernel
theorem dX11_bound_18 : decode cX11_bound 18 = .ok (.getfield 62, 3) := by decide +kernel
theorem dX11_bound_21 : decode cX11_bound 21 = .ok (.getfield 127, 3) := by decide +kernel
theorem dX11_bound_24 : decode cX11_bound 24 = .ok (.invokevirtual 186, 3) := by decide +kernel
theorem dX11_bound_27 : decode cX11_bound 27 = .ok (.ireturn, 1) := by decide +kernel
theorem q3_186 : Cond.methodLink RX11 186 yX9_thingsOf ∈ TT := tq3 186 rfl rfl
theorem q3_187 : Cond.instanceMethod yX9_thingsOf ∈ TT := tq3 187 rfl rfl
theorem q3_188 : Cond.selects RX9 yX9_thingsOf yX9_thingsOf ∈ TT := tq3 188 rfl rfl
theorem q3_189 : Cond.code yX9_thingsOf cX9_thingsOf 4 (some .int) ∈ TT := tq3 189 rfl rfl
theorem lk_RX11_186 : vlk RX11 186 yX9_thingsOf cX9_thingsOf 4 (some .int) 1 := ⟨List.forall_mem_cons.mpr ⟨q3_186, List.forall_mem_cons.mpr ⟨q3_187, List.forall_mem_cons.mpr ⟨q3_188, List.forall_mem_cons.mpr ⟨q1_3, fun _ h => absurd h List.not_mem_nil⟩⟩⟩⟩, q3_189, by decide, by decide, by decide +kernel⟩
def F_X11_bound (s_o : S11) (s_o_told : S7) (s_o_verdict : S9) (s_o_told_forms : S1) (s_o_told_paper : S4) (s_o_told_words : S10) (x1 : Int32) (x2 : Int32) : Option (Int32 × S9) := (F_X11_isNoView s_o s_o_told s_o_told_forms x1 x2).bind fun q_1 => (if q_1 = 0 then (F_X11_view s_o s_o_told s_o_verdict s_o_told_forms s_o_told_paper s_o_told_words x1 x2).bind fun q_2 => (F_X9_thingsOf s_o_told_paper q_2).bind fun q_3 => some (q_3, q_2) else some ((-1), s_o_verdict))
def w_X11_bound (o o_told o_verdict o_told_forms o_told_paper o_told_words o_text o_trial o_mending o_guess o_choice o_firstImage o_secondImage o_spare o_told_stock : Nat → Nat) (cB cI cJ cZ : ClassId) (s_o : S11) (s_o_told : S7) (s_o_verdict : S9) (s_o_told_forms : S1) (s_o_told_paper : S4) (s_o_told_words : S10) (rf_o_told : Value) (rf_o_spare : Value) : va_W := List.flatten [(gX11 o cB cI cJ cZ (o_text 0) (o_verdict 0) (o_trial 0) (o_mending 0) (o_guess 0) (o_choice 0) (o_firstImage 0) (o_secondImage 0) rf_o_told rf_o_spare s_o), (gX7 o_told cB cI cJ cZ (o_told_words 0) (o_told_forms 0) (o_told_paper 0) (o_told_stock 0) s_o_told), (gX9 o_verdict cB cI cJ cZ s_o_verdict), (gX1 o_told_forms cB cI cJ cZ s_o_told_forms), (gX4 o_told_paper cB cI cJ cZ s_o_told_paper), (gX10 o_told_words cB cI cJ cZ s_o_told_words)]
abbrev rm_X11_bound : Room := { frames := 5, cells := 0, slots := 0, locals := 116 }
set_option maxHeartbeats 4000000 in
set_option maxRecDepth 100000 in
theorem c_X11_bound (l : Launch) (D : gG) (cB cI cJ cZ : ClassId) (o o_told o_verdict o_told_forms o_told_paper o_told_words o_text o_trial o_mending o_guess o_choice o_firstImage o_secondImage o_spare o_told_stock : Nat → Nat) (s_o : S11) (s_o_told : S7) (s_o_verdict : S9) (s_o_told_forms : S1) (s_o_told_paper : S4) (s_o_told_words : S10) (x1 : Int32) (x2 : Int32) (r : Int32 × S9) (hf : F_X11_bound s_o s_o_told s_o_verdict s_o_told_forms s_o_told_paper s_o_told_words x1 x2 = some r) : gM l D (tyL cB cI cJ cZ) yX11_bound cX11_bound 3 (some .int) rm_X11_bound [.ref (o 0), .int x1, .int x2] (w_X11_bound o o_told o_verdict o_told_forms o_told_paper o_told_words o_text o_trial o_mending o_guess o_choice o_firstImage o_secondImage o_spare o_told_stock cB cI cJ cZ s_o s_o_told s_o_verdict s_o_told_forms s_o_told_paper s_o_told_words (.ref (o_told 0)) (.ref (o_spare 0))) (some (.int r.1)) (w_X11_bound o o_told o_verdict o_told_forms o_told_paper o_told_words o_text o_trial o_mending o_guess o_choice o_firstImage o_secondImage o_spare o_told_stock cB cI cJ cZ s_o s_o_told r.2 s_o_told_forms s_o_told_paper s_o_told_words (.ref (o_told 0)) (.ref (o_spare 0))) := by
  refine met_of (by decide) (Nat.le_of_ble_eq_true rfl) ?_
  intro p e s m args below meth c A cx hr hA
  show gW p l e rm_X11_bound s m args below meth c D A 3 _ 0 0 _ [(0, .ref (o 0)), (1, .int x1), (2, .int x2)] 0 []
  rw [F_X11_bound] at hf
  refine g_aln cx 0 dX11_bound_0 rfl ?_
  refine g_iln cx 1 dX11_bound_1 rfl ?_
  refine g_iln cx 2 dX11_bound_2 rfl ?_
  refine ob hf (fun q_1 hq_1 hf => ?_)
  refine g_callVGiR cx lk_RX11_157 (c_X11_isNoView l D cB cI cJ cZ o o_told o_told_forms o_text o_verdict o_trial o_mending o_guess o_choice o_firstImage o_secondImage o_spare o_told_words o_told_paper o_told_stock s_o s_o_told s_o_told_forms x1 x2 q_1 hq_1) rfl [0, 1, 3] rfl rfl (ci := 9) (q1 := 0) rfl rfl rfl (Nat.le_of_ble_eq_true rfl) ⟨rfl, rfl, Nat.le_of_ble_eq_true rfl, Nat.le_of_ble_eq_true rfl⟩ dX11_bound_3 ?_
  refine g_if_eq (tgt := 11) cx hf dX11_bound_6 rfl (fun hf => ?_) (fun hf => ?_)
  · refine g_aln cx 0 dX11_bound_11 rfl ?_
    refine g_iln cx 1 dX11_bound_12 rfl ?_
    refine g_iln cx 2 dX11_bound_13 rfl ?_
    refine ob hf (fun q_2 hq_2 hf => ?_)
    refine g_callVGr (gs' := [(gX11 o cB cI cJ cZ (o_text 0) (o_verdict 0) (o_trial 0) (o_mending 0) (o_guess 0) (o_choice 0) (o_firstImage 0) (o_secondImage 0) (.ref (o_told 0)) (.ref (o_spare 0)) s_o), (gX7 o_told cB cI cJ cZ (o_told_words 0) (o_told_forms 0) (o_told_paper 0) (o_told_stock 0) s_o_told), (gX9 o_verdict cB cI cJ cZ q_2), (gX1 o_told_forms cB cI cJ cZ s_o_told_forms), (gX4 o_told_paper cB cI cJ cZ s_o_told_paper), (gX10 o_told_words cB cI cJ cZ s_o_told_words)]) cx lk_RX11_161 (c_X11_view l D cB cI cJ cZ o o_told o_verdict o_told_forms o_told_paper o_told_words o_text o_trial o_mending o_guess o_choice o_firstImage o_secondImage o_spare o_told_stock s_o s_o_told s_o_verdict s_o_told_forms s_o_told_paper s_o_told_words x1 x2 q_2 hq_2) rfl [0, 1, 2, 3, 4, 5] rfl rfl rfl rfl (ci := 9) (q1 := 0) rfl rfl rfl (Nat.le_of_ble_eq_true rfl) ⟨rfl, rfl, Nat.le_of_ble_eq_true rfl, Nat.le_of_ble_eq_true rfl⟩ dX11_bound_14 ?_
    refine g_aln cx 0 dX11_bound_17 rfl ?_
    refine fg_RX11_62 cx 0 rfl rfl dX11_bound_18 ?_
    refine fg_RX11_127 cx 1 rfl rfl dX11_bound_21 ?_
    refine ob hf (fun q_3 hq_3 hf => ?_)
    refine g_callVGiR cx lk_RX11_186 (c_X9_thingsOf l D cB cI cJ cZ o_told_paper o_verdict s_o_told_paper q_2 q_3 hq_3) rfl [4, 2] rfl rfl (ci := 7) (q1 := 4) rfl rfl rfl (Nat.le_of_ble_eq_true rfl) ⟨rfl, rfl, Nat.le_of_ble_eq_true rfl, Nat.le_of_ble_eq_true rfl⟩ dX11_bound_24 ?_
    exact g_iret (ovf := fun (r : Int32 × S9) => (some (.int r.1))) (wf := fun (r : Int32 × S9) => (w_X11_bound o o_told o_verdict o_told_forms o_told_paper o_told_words o_text o_trial o_mending o_guess o_choice o_firstImage o_secondImage o_spare o_told_stock cB cI cJ cZ s_o s_o_told r.2 s_o_told_forms s_o_told_paper s_o_told_words (.ref (o_told 0)) (.ref (o_spare 0)))) cx hA hr hf rfl rfl dX11_bound_27
  · refine g_ic cx dX11_bound_9 k_icm1 ?_
    exact g_iret (ovf := fun (r : Int32 × S9) => (some (.int r.1))) (wf := fun (r : Int32 × S9) => (w_X11_bound o o_told o_verdict o_told_forms o_told_paper o_told_words o_text o_trial o_mending o_guess o_choice o_firstImage o_secondImage o_spare o_told_stock cB cI cJ cZ s_o s_o_told r.2 s_o_told_forms s_o_told_paper s_o_told_words (.ref (o_told 0)) (.ref (o_spare 0)))) cx hA hr hf rfl rfl dX11_bound_10
theorem dX11_struck_0 : decode cX11_struck 0 = .ok (.aload_n 0, 1) := by decide +kernel
theorem dX11_struck_1 : decode cX11_struck 1 = .ok (.iload_n 1, 1) := by decide +kernel
theorem dX11_struck_2 : decode cX11_struck 2 = .ok (.iload_n 2, 1) := by decide +kernel
theorem dX11_struck_3 : decode cX11_struck 3 = .ok (.invokevirtual 157, 3) := by decide +kernel
theorem dX11_struck_6 : decode cX11_struck 6 = .ok (.ifCond .eq 5, 3) := by decide +kernel
theorem dX11_struck_9 : decode cX11_struck 9 = .ok (.iconst (-1), 1) := by decide +kernel
theorem dX11_struck_10 : decode cX11_struck 10 = .ok (.ireturn, 1) := by decide +kernel
theorem dX11_struck_11 : decode cX11_struck 11 = .ok (.aload_n 0, 1) := by decide +kernel
theorem dX11_struck_12 : decode cX11_struck 12 = .ok (.iload_n 1, 1) := by decide +kernel
theorem dX11_struck_13 : decode cX11_struck 13 = .ok (.iload_n 2, 1) := by decide +kernel
theorem dX11_struck_14 : decode cX11_struck 14 = .ok (.invokevirtual 161, 3) := by decide +kernel
theorem dX11_struck_17 : decode cX11_struck 17 = .ok (.iload_n 3, 1) := by decide +kernel
theorem dX11_struck_18 : decode cX11_struck 18 = .ok (.invokevirtual 190, 3) := by decide +kernel
theorem dX11_struck_21 : decode cX11_struck 21 = .ok (.ireturn, 1) := by decide +kernel
theorem q3_195 : Cond.methodLink RX11 190 yX9_left ∈ TT := tq3 195 rfl rfl
theorem lk_RX11_190 : vlk RX11 190 yX9_left cX9_left 6 (some .int) 1 := ⟨List.forall_mem_cons.mpr ⟨q3_195, List.forall_mem_cons.mpr ⟨q3_196, List.forall_mem_cons.mpr ⟨q3_197, List.forall_mem_cons.mpr ⟨q1_3, fun _ h => absurd h List.not_mem_nil⟩⟩⟩⟩, q3_198, by decide, by decide, by decide +kernel⟩
def F_X11_struck (s_o : S11) (s_o_told : S7) (s_o_verdict : S9) (s_o_told_forms : S1) (s_o_told_paper : S4) (s_o_told_words : S10) (x1 : Int32) (x2 : Int32) (x3 : Int32) : Option (Int32 × S9) := (F_X11_isNoView s_o s_o_told s_o_told_forms x1 x2).bind fun q_1 => (if q_1 = 0 then (F_X11_view s_o s_o_told s_o_verdict s_o_told_forms s_o_told_paper s_o_told_words x1 x2).bind fun q_2 => (F_X9_left q_2 x3).bind fun q_3 => some (q_3, q_2) else some ((-1), s_o_verdict))
def w_X11_struck (o o_told o_verdict o_told_forms o_told_paper o_told_words o_text o_trial o_mending o_guess o_choice o_firstImage o_secondImage o_spare o_told_stock : Nat → Nat) (cB cI cJ cZ : ClassId) (s_o : S11) (s_o_told : S7) (s_o_verdict : S9) (s_o_told_forms : S1) (s_o_told_paper : S4) (s_o_told_words : S10) (rf_o_told : Value) (rf_o_spare : Value) : va_W := List.flatten [(gX11 o cB cI cJ cZ (o_text 0) (o_verdict 0) (o_trial 0) (o_mending 0) (o_guess 0) (o_choice 0) (o_firstImage 0) (o_secondImage 0) rf_o_told rf_o_spare s_o), (gX7 o_told cB cI cJ cZ (o_told_words 0) (o_told_forms 0) (o_told_paper 0) (o_told_stock 0) s_o_told), (gX9 o_verdict cB cI cJ cZ s_o_verdict), (gX1 o_told_forms cB cI cJ cZ s_o_told_forms), (gX4 o_told_paper cB cI cJ cZ s_o_told_paper), (gX10 o_told_words cB cI cJ cZ s_o_told_words)]
abbrev rm_X11_struck : Room := { frames := 5, cells := 0, slots := 0, locals := 116 }
set_option maxHeartbeats 4000000 in
set_option maxRecDepth 100000 in
theorem c_X11_struck (l : Launch) (D : gG) (cB cI cJ cZ : ClassId) (o o_told o_verdict o_told_forms o_told_paper o_told_words o_text o_trial o_mending o_guess o_choice o_firstImage o_secondImage o_spare o_told_stock : Nat → Nat) (s_o : S11) (s_o_told : S7) (s_o_verdict : S9) (s_o_told_forms : S1) (s_o_told_paper : S4) (s_o_told_words : S10) (x1 : Int32) (x2 : Int32) (x3 : Int32) (r : Int32 × S9) (hf : F_X11_struck s_o s_o_told s_o_verdict s_o_told_forms s_o_told_paper s_o_told_words x1 x2 x3 = some r) : gM l D (tyL cB cI cJ cZ) yX11_struck cX11_struck 4 (some .int) rm_X11_struck [.ref (o 0), .int x1, .int x2, .int x3] (w_X11_struck o o_told o_verdict o_told_forms o_told_paper o_told_words o_text o_trial o_mending o_guess o_choice o_firstImage o_secondImage o_spare o_told_stock cB cI cJ cZ s_o s_o_told s_o_verdict s_o_told_forms s_o_told_paper s_o_told_words (.ref (o_told 0)) (.ref (o_spare 0))) (some (.int r.1)) (w_X11_struck o o_told o_verdict o_told_forms o_told_paper o_told_words o_text o_trial o_mending o_guess o_choice o_firstImage o_secondImage o_spare o_told_stock cB cI cJ cZ s_o s_o_told r.2 s_o_told_forms s_o_told_paper s_o_told_words (.ref (o_told 0)) (.ref (o_spare 0))) := by
  refine met_of (by decide) (Nat.le_of_ble_eq_true rfl) ?_
  intro p e s m args below meth c A cx hr hA
  show gW p l e rm_X11_struck s m args below meth c D A 4 _ 0 0 _ [(0, .ref (o 0)), (1, .int x1), (2, .int x2), (3, .int x3)] 0 []
  rw [F_X11_struck] at hf
  refine g_aln cx 0 dX11_struck_0 rfl ?_
  refine g_iln cx 1 dX11_struck_1 rfl ?_
  refine g_iln cx 2 dX11_struck_2 rfl ?_
  refine ob hf (fun q_1 hq_1 hf => ?_)
  refine g_callVGiR cx lk_RX11_157 (c_X11_isNoView l D cB cI cJ cZ o o_told o_told_forms o_text o_verdict o_trial o_mending o_guess o_choice o_firstImage o_secondImage o_spare o_told_words o_told_paper o_told_stock s_o s_o_told s_o_told_forms x1 x2 q_1 hq_1) rfl [0, 1, 3] rfl rfl (ci := 9) (q1 := 0) rfl rfl rfl (Nat.le_of_ble_eq_true rfl) ⟨rfl, rfl, Nat.le_of_ble_eq_true rfl, Nat.le_of_ble_eq_true rfl⟩ dX11_struck_3 ?_
  refine g_if_eq (tgt := 11) cx hf dX11_struck_6 rfl (fun hf => ?_) (fun hf => ?_)
  · refine g_aln cx 0 dX11_struck_11 rfl ?_
    refine g_iln cx 1 dX11_struck_12 rfl ?_
    refine g_iln cx 2 dX11_struck_13 rfl ?_
    refine ob hf (fun q_2 hq_2 hf => ?_)
    refine g_callVGr (gs' := [(gX11 o cB cI cJ cZ (o_text 0) (o_verdict 0) (o_trial 0) (o_mending 0) (o_guess 0) (o_choice 0) (o_firstImage 0) (o_secondImage 0) (.ref (o_told 0)) (.ref (o_spare 0)) s_o), (gX7 o_told cB cI cJ cZ (o_told_words 0) (o_told_forms 0) (o_told_paper 0) (o_told_stock 0) s_o_told), (gX9 o_verdict cB cI cJ cZ q_2), (gX1 o_told_forms cB cI cJ cZ s_o_told_forms), (gX4 o_told_paper cB cI cJ cZ s_o_told_paper), (gX10 o_told_words cB cI cJ cZ s_o_told_words)]) cx lk_RX11_161 (c_X11_view l D cB cI cJ cZ o o_told o_verdict o_told_forms o_told_paper o_told_words o_text o_trial o_mending o_guess o_choice o_firstImage o_secondImage o_spare o_told_stock s_o s_o_told s_o_verdict s_o_told_forms s_o_told_paper s_o_told_words x1 x2 q_2 hq_2) rfl [0, 1, 2, 3, 4, 5] rfl rfl rfl rfl (ci := 9) (q1 := 0) rfl rfl rfl (Nat.le_of_ble_eq_true rfl) ⟨rfl, rfl, Nat.le_of_ble_eq_true rfl, Nat.le_of_ble_eq_true rfl⟩ dX11_struck_14 ?_
    refine g_iln cx 3 dX11_struck_17 rfl ?_
    refine ob hf (fun q_3 hq_3 hf => ?_)
    refine g_callVGiR cx lk_RX11_190 (c_X9_left l D cB cI cJ cZ o_verdict q_2 x3 q_3 hq_3) rfl [2] rfl rfl (ci := 7) (q1 := 0) rfl rfl rfl (Nat.le_of_ble_eq_true rfl) ⟨rfl, rfl, Nat.le_of_ble_eq_true rfl, Nat.le_of_ble_eq_true rfl⟩ dX11_struck_18 ?_
    exact g_iret (ovf := fun (r : Int32 × S9) => (some (.int r.1))) (wf := fun (r : Int32 × S9) => (w_X11_struck o o_told o_verdict o_told_forms o_told_paper o_told_words o_text o_trial o_mending o_guess o_choice o_firstImage o_secondImage o_spare o_told_stock cB cI cJ cZ s_o s_o_told r.2 s_o_told_forms s_o_told_paper s_o_told_words (.ref (o_told 0)) (.ref (o_spare 0)))) cx hA hr hf rfl rfl dX11_struck_21
  · refine g_ic cx dX11_struck_9 k_icm1 ?_
    exact g_iret (ovf := fun (r : Int32 × S9) => (some (.int r.1))) (wf := fun (r : Int32 × S9) => (w_X11_struck o o_told o_verdict o_told_forms o_told_paper o_told_words o_text o_trial o_mending o_guess o_choice o_firstImage o_secondImage o_spare o_told_stock cB cI cJ cZ s_o s_o_told r.2 s_o_told_forms s_o_told_paper s_o_told_words (.ref (o_told 0)) (.ref (o_spare 0)))) cx hA hr hf rfl rfl dX11_struck_10
theorem dX11_key_0 : decode cX11_key 0 = .ok (.aload_n 0, 1) := by decide +kernel
theorem dX11_key_1 : decode cX11_key 1 = .ok (.iload_n 1, 1) := by decide +kernel
theorem dX11_key_2 : decode cX11_key 2 = .ok (.iload_n 2, 1) := by decide +kernel
theorem dX11_key_3 : decode cX11_key 3 = .ok (.invokevirtual 157, 3) := by decide +kernel
theorem dX11_key_6 : decode cX11_key 6 = .ok (.ifCond .eq 5, 3) := by decide +kernel
theorem dX11_key_9 : decode cX11_key 9 = .ok (.iconst (-1), 1) := by decide +kernel
theorem dX11_key_10 : decode cX11_key 10 = .ok (.ireturn, 1) := by decide +kernel
theorem dX11_key_11 : decode cX11_key 11 = .ok (.aload_n 0, 1) := by decide +kernel
theorem dX11_key_12 : decode cX11_key 12 = .ok (.iload_n 1, 1) := by decide +kernel
theorem dX11_key_13 : decode cX11_key 13 = .ok (.iload_n 2, 1) := by decide +kernel
theorem dX11_key_14 : decode cX11_key 14 = .ok (.invokevirtual 161, 3) := by decide +kernel
theorem dX11_key_17 : decode cX11_key 17 = .ok (.invokevirtual 193, 3) := by decide +kernel
theorem dX11_key_20 : decode cX11_key 20 = .ok (.ireturn, 1) := by decide +kernel
theorem q3_205 : Cond.methodLink RX11 193 yX9_keyLine ∈ TT := tq3 205 rfl rfl
theorem q3_206 : Cond.instanceMethod yX9_keyLine ∈ TT := tq3 206 rfl rfl
theorem q3_207 : Cond.selects RX9 yX9_keyLine yX9_keyLine ∈ TT := tq3 207 rfl rfl
theorem q3_208 : Cond.code yX9_keyLine cX9_keyLine 5 (some .int) ∈ TT := tq3 208 rfl rfl
theorem lk_RX11_193 : vlk RX11 193 yX9_keyLine cX9_keyLine 5 (some .int) 0 := ⟨List.forall_mem_cons.mpr ⟨q3_205, List.forall_mem_cons.mpr ⟨q3_206, List.forall_mem_cons.mpr ⟨q3_207, List.forall_mem_cons.mpr ⟨q1_3, fun _ h => absurd h List.not_mem_nil⟩⟩⟩⟩, q3_208, by decide, by decide, by decide +kernel⟩
def F_X11_key (s_o : S11) (s_o_told : S7) (s_o_verdict : S9) (s_o_told_forms : S1) (s_o_told_paper : S4) (s_o_told_words : S10) (x1 : Int32) (x2 : Int32) : Option (Int32 × S9) := (F_X11_isNoView s_o s_o_told s_o_told_forms x1 x2).bind fun q_1 => (if q_1 = 0 then (F_X11_view s_o s_o_told s_o_verdict s_o_told_forms s_o_told_paper s_o_told_words x1 x2).bind fun q_2 => (F_X9_keyLine q_2).bind fun q_3 => some (q_3, q_2) else some ((-1), s_o_verdict))
def w_X11_key (o o_told o_verdict o_told_forms o_told_paper o_told_words o_text o_trial o_mending o_guess o_choice o_firstImage o_secondImage o_spare o_told_stock : Nat → Nat) (cB cI cJ cZ : ClassId) (s_o : S11) (s_o_told : S7) (s_o_verdict : S9) (s_o_told_forms : S1) (s_o_told_paper : S4) (s_o_told_words : S10) (rf_o_told : Value) (rf_o_spare : Value) : va_W := List.flatten [(gX11 o cB cI cJ cZ (o_text 0) (o_verdict 0) (o_trial 0) (o_mending 0) (o_guess 0) (o_choice 0) (o_firstImage 0) (o_secondImage 0) rf_o_told rf_o_spare s_o), (gX7 o_told cB cI cJ cZ (o_told_words 0) (o_told_forms 0) (o_told_paper 0) (o_told_stock 0) s_o_told), (gX9 o_verdict cB cI cJ cZ s_o_verdict), (gX1 o_told_forms cB cI cJ cZ s_o_told_forms), (gX4 o_told_paper cB cI cJ cZ s_o_told_paper), (gX10 o_told_words cB cI cJ cZ s_o_told_words)]
abbrev rm_X11_key : Room := { frames := 5, cells := 0, slots := 0, locals := 116 }
set_option maxHeartbeats 4000000 in
set_option maxRecDepth 100000 in
theorem c_X11_key (l : Launch) (D : gG) (cB cI cJ cZ : ClassId) (o o_told o_verdict o_told_forms o_told_paper o_told_words o_text o_trial o_mending o_guess o_choice o_firstImage o_secondImage o_spare o_told_stock : Nat → Nat) (s_o : S11) (s_o_told : S7) (s_o_verdict : S9) (s_o_told_forms : S1) (s_o_told_paper : S4) (s_o_told_words : S10) (x1 : Int32) (x2 : Int32) (r : Int32 × S9) (hf : F_X11_key s_o s_o_told s_o_verdict s_o_told_forms s_o_told_paper s_o_told_words x1 x2 = some r) : gM l D (tyL cB cI cJ cZ) yX11_key cX11_key 3 (some .int) rm_X11_key [.ref (o 0), .int x1, .int x2] (w_X11_key o o_told o_verdict o_told_forms o_told_paper o_told_words o_text o_trial o_mending o_guess o_choice o_firstImage o_secondImage o_spare o_told_stock cB cI cJ cZ s_o s_o_told s_o_verdict s_o_told_forms s_o_told_paper s_o_told_words (.ref (o_told 0)) (.ref (o_spare 0))) (some (.int r.1)) (w_X11_key o o_told o_verdict o_told_forms o_told_paper o_told_words o_text o_trial o_mending o_guess o_choice o_firstImage o_secondImage o_spare o_told_stock cB cI cJ cZ s_o s_o_told r.2 s_o_told_forms s_o_told_paper s_o_told_words (.ref (o_told 0)) (.ref (o_spare 0))) := by
  refine met_of (by decide) (Nat.le_of_ble_eq_true rfl) ?_
  intro p e s m args below meth c A cx hr hA
  show gW p l e rm_X11_key s m args below meth c D A 3 _ 0 0 _ [(0, .ref (o 0)), (1, .int x1), (2, .int x2)] 0 []
  rw [F_X11_key] at hf
  refine g_aln cx 0 dX11_key_0 rfl ?_
  refine g_iln cx 1 dX11_key_1 rfl ?_
  refine g_iln cx 2 dX11_key_2 rfl ?_
  refine ob hf (fun q_1 hq_1 hf => ?_)
  refine g_callVGiR cx lk_RX11_157 (c_X11_isNoView l D cB cI cJ cZ o o_told o_told_forms o_text o_verdict o_trial o_mending o_guess o_choice o_firstImage o_secondImage o_spare o_told_words o_told_paper o_told_stock s_o s_o_told s_o_told_forms x1 x2 q_1 hq_1) rfl [0, 1, 3] rfl rfl (ci := 9) (q1 := 0) rfl rfl rfl (Nat.le_of_ble_eq_true rfl) ⟨rfl, rfl, Nat.le_of_ble_eq_true rfl, Nat.le_of_ble_eq_true rfl⟩ dX11_key_3 ?_
  refine g_if_eq (tgt := 11) cx hf dX11_key_6 rfl (fun hf => ?_) (fun hf => ?_)
  · refine g_aln cx 0 dX11_key_11 rfl ?_
    refine g_iln cx 1 dX11_key_12 rfl ?_
    refine g_iln cx 2 dX11_key_13 rfl ?_
    refine ob hf (fun q_2 hq_2 hf => ?_)
    refine g_callVGr (gs' := [(gX11 o cB cI cJ cZ (o_text 0) (o_verdict 0) (o_trial 0) (o_mending 0) (o_guess 0) (o_choice 0) (o_firstImage 0) (o_secondImage 0) (.ref (o_told 0)) (.ref (o_spare 0)) s_o), (gX7 o_told cB cI cJ cZ (o_told_words 0) (o_told_forms 0) (o_told_paper 0) (o_told_stock 0) s_o_told), (gX9 o_verdict cB cI cJ cZ q_2), (gX1 o_told_forms cB cI cJ cZ s_o_told_forms), (gX4 o_told_paper cB cI cJ cZ s_o_told_paper), (gX10 o_told_words cB cI cJ cZ s_o_told_words)]) cx lk_RX11_161 (c_X11_view l D cB cI cJ cZ o o_told o_verdict o_told_forms o_told_paper o_told_words o_text o_trial o_mending o_guess o_choice o_firstImage o_secondImage o_spare o_told_stock s_o s_o_told s_o_verdict s_o_told_forms s_o_told_paper s_o_told_words x1 x2 q_2 hq_2) rfl [0, 1, 2, 3, 4, 5] rfl rfl rfl rfl (ci := 9) (q1 := 0) rfl rfl rfl (Nat.le_of_ble_eq_true rfl) ⟨rfl, rfl, Nat.le_of_ble_eq_true rfl, Nat.le_of_ble_eq_true rfl⟩ dX11_key_14 ?_
    refine ob hf (fun q_3 hq_3 hf => ?_)
    refine g_callVGiR cx lk_RX11_193 (c_X9_keyLine l D cB cI cJ cZ o_verdict q_2 q_3 hq_3) rfl [2] rfl rfl (ci := 7) (q1 := 0) rfl rfl rfl (Nat.le_of_ble_eq_true rfl) ⟨rfl, rfl, Nat.le_of_ble_eq_true rfl, Nat.le_of_ble_eq_true rfl⟩ dX11_key_17 ?_
    exact g_iret (ovf := fun (r : Int32 × S9) => (some (.int r.1))) (wf := fun (r : Int32 × S9) => (w_X11_key o o_told o_verdict o_told_forms o_told_paper o_told_words o_text o_trial o_mending o_guess o_choice o_firstImage o_secondImage o_spare o_told_stock cB cI cJ cZ s_o s_o_told r.2 s_o_told_forms s_o_told_paper s_o_told_words (.ref (o_told 0)) (.ref (o_spare 0)))) cx hA hr hf rfl rfl dX11_key_20
  · refine g_ic cx dX11_key_9 k_icm1 ?_
    exact g_iret (ovf := fun (r : Int32 × S9) => (some (.int r.1))) (wf := fun (r : Int32 × S9) => (w_X11_key o o_told o_verdict o_told_forms o_told_paper o_told_words o_text o_trial o_mending o_guess o_choice o_firstImage o_secondImage o_spare o_told_stock cB cI cJ cZ s_o s_o_told r.2 s_o_told_forms s_o_told_paper s_o_told_words (.ref (o_told 0)) (.ref (o_spare 0)))) cx hA hr hf rfl rfl dX11_key_10
theorem dX11_isNoLineNorAll_0 : decode cX11_isNoLineNorAll 0 = .ok (.iload_n 1, 1) := by decide +kernel
theorem dX11_isNoLineNorAll_1 : decode cX11_isNoLineNorAll 1 = .ok (.iconst (-1), 1) := by decide +kernel
theorem dX11_isNoLineNorAll_2 : decode cX11_isNoLineNorAll 2 = .ok (.if_icmp .eq 21, 3) := by decide +kernel
theorem dX11_isNoLineNorAll_5 : decode cX11_isNoLineNorAll 5 = .ok (.aload_n 0, 1) := by decide +kernel
theorem dX11_isNoLineNorAll_6 : decode cX11_isNoLineNorAll 6 = .ok (.getfield 62, 3) := by decide +kernel
theorem dX11_isNoLineNorAll_9 : decode cX11_isNoLineNorAll 9 = .ok (.getfield 127, 3) := by decide +kernel
theorem dX11_isNoLineNorAll_12 : decode cX11_isNoLineNorAll 12 = .ok (.iload_n 1, 1) := by decide +kernel
theorem dX11_isNoLineNorAll_13 : decode cX11_isNoLineNorAll 13 = .ok (.invokevirtual 147, 3) := by decide +kernel
theorem dX11_isNoLineNorAll_16 : decode cX11_isNoLineNorAll 16 = .ok (.ifCond .ne 7, 3) := by decide +kernel
theorem dX11_isNoLineNorAll_19 : decode cX11_isNoLineNorAll 19 = .ok (.iconst 1, 1) := by decide +kernel
theorem dX11_isNoLineNorAll_20 : decode cX11_isNoLineNorAll 20 = .ok (.goto 4, 3) := by decide +kernel
theorem dX11_isNoLineNorAll_23 : decode cX11_isNoLineNorAll 23 = .ok (.iconst 0, 1) := by decide +kernel
theorem dX11_isNoLineNorAll_24 : decode cX11_isNoLineNorAll 24 = .ok (.ireturn, 1) := by decide +kernel


def F_X11_isNoLineNorAll (s_o : S11) (s_o_told : S7) (s_o_told_paper : S4) (x1 : Int32) : Option (Int32) := (if x1 = (-1) then some (0) else (F_X4_has s_o_told_paper x1).bind fun q_1 => (if q_1 = 0 then some (1) else some (0)))
def w_X11_isNoLineNorAll (o o_told o_told_paper o_text o_verdict o_trial o_mending o_guess o_choice o_firstImage o_secondImage o_spare o_told_words o_told_forms o_told_stock : Nat → Nat) (cB cI cJ cZ : ClassId) (s_o : S11) (s_o_told : S7) (s_o_told_paper : S4) (rf_o_told : Value) (rf_o_spare : Value) : va_W := List.flatten [(gX11 o cB cI cJ cZ (o_text 0) (o_verdict 0) (o_trial 0) (o_mending 0) (o_guess 0) (o_choice 0) (o_firstImage 0) (o_secondImage 0) rf_o_told rf_o_spare s_o), (gX7 o_told cB cI cJ cZ (o_told_words 0) (o_told_forms 0) (o_told_paper 0) (o_told_stock 0) s_o_told), (gX4 o_told_paper cB cI cJ cZ s_o_told_paper)]
abbrev rm_X11_isNoLineNorAll : Room := { frames := 1, cells := 0, slots := 0, locals := 21 }
set_option maxHeartbeats 4000000 in
set_option maxRecDepth 100000 in
theorem c_X11_isNoLineNorAll (l : Launch) (D : gG) (cB cI cJ cZ : ClassId) (o o_told o_told_paper o_text o_verdict o_trial o_mending o_guess o_choice o_firstImage o_secondImage o_spare o_told_words o_told_forms o_told_stock : Nat → Nat) (s_o : S11) (s_o_told : S7) (s_o_told_paper : S4) (x1 : Int32) (r : Int32) (hf : F_X11_isNoLineNorAll s_o s_o_told s_o_told_paper x1 = some r) : gM l D (tyL cB cI cJ cZ) yX11_isNoLineNorAll cX11_isNoLineNorAll 2 (some .boolean) rm_X11_isNoLineNorAll [.ref (o 0), .int x1] (w_X11_isNoLineNorAll o o_told o_told_paper o_text o_verdict o_trial o_mending o_guess o_choice o_firstImage o_secondImage o_spare o_told_words o_told_forms o_told_stock cB cI cJ cZ s_o s_o_told s_o_told_paper (.ref (o_told 0)) (.ref (o_spare 0))) (some (.int r)) (w_X11_isNoLineNorAll o o_told o_told_paper o_text o_verdict o_trial o_mending o_guess o_choice o_firstImage o_secondImage o_spare o_told_words o_told_forms o_told_stock cB cI cJ cZ s_o s_o_told s_o_told_paper (.ref (o_told 0)) (.ref (o_spare 0))) := by
  refine met_of (by decide) (Nat.le_of_ble_eq_true rfl) ?_
  intro p e s m args below meth c A cx hr hA
  show gW p l e rm_X11_isNoLineNorAll s m args below meth c D A 2 _ 0 0 _ [(0, .ref (o 0)), (1, .int x1)] 0 []
  rw [F_X11_isNoLineNorAll] at hf
  refine g_iln cx 1 dX11_isNoLineNorAll_0 rfl ?_
  refine g_ic cx dX11_isNoLineNorAll_1 k_icm1 ?_
  refine g_ic_eq (tgt := 23) cx hf dX11_isNoLineNorAll_2 rfl (fun hf => ?_) (fun hf => ?_)
  · refine g_ic cx dX11_isNoLineNorAll_23 k_ic0 ?_
    exact g_zret (ovf := fun (r : Int32) => (some (.int r))) (wf := fun (r : Int32) => (w_X11_isNoLineNorAll o o_told o_told_paper o_text o_verdict o_trial o_mending o_guess o_choice o_firstImage o_secondImage o_spare o_told_words o_told_forms o_told_stock cB cI cJ cZ s_o s_o_told s_o_told_paper (.ref (o_told 0)) (.ref (o_spare 0)))) cx hA hr rfl hf rfl rfl dX11_isNoLineNorAll_24
  · refine g_aln cx 0 dX11_isNoLineNorAll_5 rfl ?_
    refine fg_RX11_62 cx 0 rfl rfl dX11_isNoLineNorAll_6 ?_
    refine fg_RX11_127 cx 1 rfl rfl dX11_isNoLineNorAll_9 ?_
    refine g_iln cx 1 dX11_isNoLineNorAll_12 rfl ?_
    refine ob hf (fun q_1 hq_1 hf => ?_)
    refine g_callVGiR cx lk_RX11_147 (c_X4_has l D cB cI cJ cZ o_told_paper s_o_told_paper x1 q_1 hq_1) rfl [2] rfl rfl (ci := 4) (q1 := 0) rfl rfl rfl (Nat.le_of_ble_eq_true rfl) ⟨rfl, rfl, Nat.le_of_ble_eq_true rfl, Nat.le_of_ble_eq_true rfl⟩ dX11_isNoLineNorAll_13 ?_
    refine g_if_ne (tgt := 23) cx hf dX11_isNoLineNorAll_16 rfl (fun hf => ?_) (fun hf => ?_)
    · refine g_ic cx dX11_isNoLineNorAll_23 k_ic0 ?_
      exact g_zret (ovf := fun (r : Int32) => (some (.int r))) (wf := fun (r : Int32) => (w_X11_isNoLineNorAll o o_told o_told_paper o_text o_verdict o_trial o_mending o_guess o_choice o_firstImage o_secondImage o_spare o_told_words o_told_forms o_told_stock cB cI cJ cZ s_o s_o_told s_o_told_paper (.ref (o_told 0)) (.ref (o_spare 0)))) cx hA hr rfl hf rfl rfl dX11_isNoLineNorAll_24
    · refine g_ic cx dX11_isNoLineNorAll_19 k_ic1 ?_
      refine g_goto (tgt := 24) cx dX11_isNoLineNorAll_20 rfl ?_
      exact g_zret (ovf := fun (r : Int32) => (some (.int r))) (wf := fun (r : Int32) => (w_X11_isNoLineNorAll o o_told o_told_paper o_text o_verdict o_trial o_mending o_guess o_choice o_firstImage o_secondImage o_spare o_told_words o_told_forms o_told_stock cB cI cJ cZ s_o s_o_told s_o_told_paper (.ref (o_told 0)) (.ref (o_spare 0)))) cx hA hr rfl hf rfl rfl dX11_isNoLineNorAll_24
theorem dX11_mended_0 : decode cX11_mended 0 = .ok (.aload_n 0, 1) := by decide +kernel
theorem dX11_mended_1 : decode cX11_mended 1 = .ok (.iload_n 1, 1) := by decide +kernel
theorem dX11_mended_2 : decode cX11_mended 2 = .ok (.iload_n 2, 1) := by decide +kernel
theorem dX11_mended_3 : decode cX11_mended 3 = .ok (.invokevirtual 157, 3) := by decide +kernel
theorem dX11_mended_6 : decode cX11_mended 6 = .ok (.ifCond .ne 11, 3) := by decide +kernel
theorem dX11_mended_9 : decode cX11_mended 9 = .ok (.aload_n 0, 1) := by decide +kernel
theorem dX11_mended_10 : decode cX11_mended 10 = .ok (.iload_n 3, 1) := by decide +kernel
theorem dX11_mended_11 : decode cX11_mended 11 = .ok (.invokevirtual 196, 3) := by decide +kernel
theorem dX11_mended_14 : decode cX11_mended 14 = .ok (.ifCond .eq 5, 3) := by decide +kernel
theorem dX11_mended_17 : decode cX11_mended 17 = .ok (.iconst (-1), 1) := by decide +kernel
theorem dX11_mended_18 : decode cX11_mended 18 = .ok (.ireturn, 1) := by decide +kernel
theorem dX11_mended_19 : decode cX11_mended 19 = .ok (.aload_n 0, 1) := by decide +kernel
theorem dX11_mended_20 : decode cX11_mended 20 = .ok (.getfield 35, 3) := by decide +kernel
theorem dX11_mended_23 : decode cX11_mended 23 = .ok (.aload_n 0, 1) := by decide +kernel
theorem dX11_mended_24 : decode cX11_mended 24 = .ok (.getfield 62, 3) := by decide +kernel
theorem dX11_mended_27 : decode cX11_mended 27 = .ok (.iload_n 1, 1) := by decide +kernel
theorem dX11_mended_28 : decode cX11_mended 28 = .ok (.iload_n 2, 1) := by decide +kernel
theorem dX11_mended_29 : decode cX11_mended 29 = .ok (.invokevirtual 199, 3) := by decide +kernel
theorem dX11_mended_32 : decode cX11_mended 32 = .ok (.istore 4, 2) := by decide +kernel
theorem dX11_mended_34 : decode cX11_mended 34 = .ok (.iload 4, 2) := by decide +kernel
theorem dX11_mended_36 : decode cX11_mended 36 = .ok (.ifCond .lt 7, 3) := by decide +kernel
theorem dX11_mended_39 : decode cX11_mended 39 = .ok (.iload_n 3, 1) := by decide +kernel
theorem dX11_mended_40 : decode cX11_mended 40 = .ok (.ifCond .ge 8, 3) := by decide +kernel
theorem dX11_mended_43 : decode cX11_mended 43 = .ok (.iload 4, 2) := by decide +kernel
theorem dX11_mended_45 : decode cX11_mended 45 = .ok (.goto 11, 3) := by decide +kernel
theorem dX11_mended_48 : decode cX11_mended 48 = .ok (.aload_n 0, 1) := by decide +kernel
theorem dX11_mended_49 : decode cX11_mended 49 = .ok (.getfield 35, 3) := by decide +kernel
theorem dX11_mended_52 : decode cX11_mended 52 = .ok (.iload_n 3, 1) := by decide +kernel
theorem dX11_mended_53 : decode cX11_mended 53 = .ok (.invokevirtual 203, 3) := by decide +kernel
theorem dX11_mended_56 : decode cX11_mended 56 = .ok (.ireturn, 1) := by decide +kernel
theorem q0_6 : Cond.selects RX11 yX11_isNoLineNorAll yX11_isNoLineNorAll ∈ TT := tq0 6 rfl rfl
theorem q1_235 : Cond.fieldLink RX11 35 "RhymeLaw" "mending" "LRhymeLaw$Mending;" ∈ TT := tq1 235 rfl rfl
theorem q3_220 : Cond.methodLink RX11 196 yX11_isNoLineNorAll ∈ TT := tq3 220 rfl rfl
theorem q3_222 : Cond.instanceMethod yX11_isNoLineNorAll ∈ TT := tq3 222 rfl rfl
theorem q3_223 : Cond.code yX11_isNoLineNorAll cX11_isNoLineNorAll 2 (some .boolean) ∈ TT := tq3 223 rfl rfl
theorem q3_224 : Cond.methodLink RX11 199 yX3_mend ∈ TT := tq3 224 rfl rfl
theorem q3_225 : Cond.instanceMethod yX3_mend ∈ TT := tq3 225 rfl rfl
theorem q3_226 : Cond.selects RX3 yX3_mend yX3_mend ∈ TT := tq3 226 rfl rfl
theorem q3_227 : Cond.code yX3_mend cX3_mend 9 (some .int) ∈ TT := tq3 227 rfl rfl
theorem q4_33 : Cond.methodLink RX11 203 yX3_wordAt ∈ TT := tq4 33 rfl rfl
theorem lk_RX11_196 : vlk RX11 196 yX11_isNoLineNorAll cX11_isNoLineNorAll 2 (some .boolean) 1 := ⟨List.forall_mem_cons.mpr ⟨q3_220, List.forall_mem_cons.mpr ⟨q3_222, List.forall_mem_cons.mpr ⟨q0_6, List.forall_mem_cons.mpr ⟨q1_1, fun _ h => absurd h List.not_mem_nil⟩⟩⟩⟩, q3_223, by decide, by decide, by decide +kernel⟩
theorem fg_RX11_35 {p : Program} {l : Launch} {e : Env} {R : Room} {s : State} {m : MethodId} {args : Array Value} {below : List Frame} {meth : Method} {c : Code} {D : gG} {tys : List (ClassId × FieldType)} {A : Nat → Prop} {nL : Nat} {Q : State → Prop} {cells slots : Nat} {cc : ByteArray} {ws : va_W} {L : List (Nat × Value)} {pc : Nat} {stk : List Value} (cx : gX p s m args meth c cc nL RX11 D tys A) {a : Nat} {fs : List Value} {v : Value} (q0 : Nat) (he : ws[q0]? = some (a, .inr (9, fs))) (hv : fs[3]? = some v) (hd : decode cc pc = .ok (.getfield 35, 3)) (kk : gW p l e R s m args below meth c D A nL Q cells slots ws L (pc + 3) (v :: stk)) : gW p l e R s m args below meth c D A nL Q cells slots ws L pc (.ref a :: stk) :=
  g_get cx (C := RX11) (T := TX11) (N := 12) inT11 rfl 3 (Nat.le_of_ble_eq_true rfl) q1_235 rfl q0 he hv hd kk
theorem lk_RX11_199 : vlk RX11 199 yX3_mend cX3_mend 9 (some .int) 3 := ⟨List.forall_mem_cons.mpr ⟨q3_224, List.forall_mem_cons.mpr ⟨q3_225, List.forall_mem_cons.mpr ⟨q3_226, List.forall_mem_cons.mpr ⟨q1_6, fun _ h => absurd h List.not_mem_nil⟩⟩⟩⟩, q3_227, by decide, by decide, by decide +kernel⟩
theorem lk_RX11_203 : vlk RX11 203 yX3_wordAt cX3_wordAt 2 (some .int) 1 := ⟨List.forall_mem_cons.mpr ⟨q4_33, List.forall_mem_cons.mpr ⟨q4_30, List.forall_mem_cons.mpr ⟨q4_31, List.forall_mem_cons.mpr ⟨q1_6, fun _ h => absurd h List.not_mem_nil⟩⟩⟩⟩, q4_32, by decide, by decide, by decide +kernel⟩
def F_X11_mended (s_o : S11) (s_o_mending : S3) (s_o_told : S7) (s_o_told_forms : S1) (s_o_told_paper : S4) (s_o_told_words : S10) (x1 : Int32) (x2 : Int32) (x3 : Int32) : Option (Int32 × S3) := (F_X11_isNoView s_o s_o_told s_o_told_forms x1 x2).bind fun q_1 => (if q_1 = 0 then (F_X11_isNoLineNorAll s_o s_o_told s_o_told_paper x3).bind fun q_2 => (if q_2 = 0 then (F_X3_mend s_o_told s_o_mending s_o_told_forms s_o_told_paper s_o_told_words x1 x2).bind fun q_3 => nm q_3.1 fun v4_4 => (if v4_4 < 0 then some (v4_4, q_3.2) else (if 0 ≤ x3 then (F_X3_wordAt q_3.2 x3).bind fun q_5 => some (q_5, q_3.2) else some (v4_4, q_3.2))) else some ((-1), s_o_mending)) else some ((-1), s_o_mending))
def w_X11_mended (o o_mending o_told o_told_forms o_told_paper o_told_words o_text o_verdict o_trial o_guess o_choice o_firstImage o_secondImage o_spare o_told_stock : Nat → Nat) (cB cI cJ cZ : ClassId) (s_o : S11) (s_o_mending : S3) (s_o_told : S7) (s_o_told_forms : S1) (s_o_told_paper : S4) (s_o_told_words : S10) (rf_o_told : Value) (rf_o_spare : Value) : va_W := List.flatten [(gX11 o cB cI cJ cZ (o_text 0) (o_verdict 0) (o_trial 0) (o_mending 0) (o_guess 0) (o_choice 0) (o_firstImage 0) (o_secondImage 0) rf_o_told rf_o_spare s_o), (gX3 o_mending cB cI cJ cZ s_o_mending), (gX7 o_told cB cI cJ cZ (o_told_words 0) (o_told_forms 0) (o_told_paper 0) (o_told_stock 0) s_o_told), (gX1 o_told_forms cB cI cJ cZ s_o_told_forms), (gX4 o_told_paper cB cI cJ cZ s_o_told_paper), (gX10 o_told_words cB cI cJ cZ s_o_told_words)]
abbrev rm_X11_mended : Room := { frames := 6, cells := 0, slots := 0, locals := 150 }
set_option maxHeartbeats 4000000 in
set_option maxRecDepth 100000 in
theorem c_X11_mended (l : Launch) (D : gG) (cB cI cJ cZ : ClassId) (o o_mending o_told o_told_forms o_told_paper o_told_words o_text o_verdict o_trial o_guess o_choice o_firstImage o_secondImage o_spare o_told_stock : Nat → Nat) (s_o : S11) (s_o_mending : S3) (s_o_told : S7) (s_o_told_forms : S1) (s_o_told_paper : S4) (s_o_told_words : S10) (x1 : Int32) (x2 : Int32) (x3 : Int32) (r : Int32 × S3) (hf : F_X11_mended s_o s_o_mending s_o_told s_o_told_forms s_o_told_paper s_o_told_words x1 x2 x3 = some r) : gM l D (tyL cB cI cJ cZ) yX11_mended cX11_mended 5 (some .int) rm_X11_mended [.ref (o 0), .int x1, .int x2, .int x3] (w_X11_mended o o_mending o_told o_told_forms o_told_paper o_told_words o_text o_verdict o_trial o_guess o_choice o_firstImage o_secondImage o_spare o_told_stock cB cI cJ cZ s_o s_o_mending s_o_told s_o_told_forms s_o_told_paper s_o_told_words (.ref (o_told 0)) (.ref (o_spare 0))) (some (.int r.1)) (w_X11_mended o o_mending o_told o_told_forms o_told_paper o_told_words o_text o_verdict o_trial o_guess o_choice o_firstImage o_secondImage o_spare o_told_stock cB cI cJ cZ s_o r.2 s_o_told s_o_told_forms s_o_told_paper s_o_told_words (.ref (o_told 0)) (.ref (o_spare 0))) := by
  refine met_of (by decide) (Nat.le_of_ble_eq_true rfl) ?_
  intro p e s m args below meth c A cx hr hA
  show gW p l e rm_X11_mended s m args below meth c D A 5 _ 0 0 _ [(0, .ref (o 0)), (1, .int x1), (2, .int x2), (3, .int x3)] 0 []
  rw [F_X11_mended] at hf
  refine g_aln cx 0 dX11_mended_0 rfl ?_
  refine g_iln cx 1 dX11_mended_1 rfl ?_
  refine g_iln cx 2 dX11_mended_2 rfl ?_
  refine ob hf (fun q_1 hq_1 hf => ?_)
  refine g_callVGiR cx lk_RX11_157 (c_X11_isNoView l D cB cI cJ cZ o o_told o_told_forms o_text o_verdict o_trial o_mending o_guess o_choice o_firstImage o_secondImage o_spare o_told_words o_told_paper o_told_stock s_o s_o_told s_o_told_forms x1 x2 q_1 hq_1) rfl [0, 2, 3] rfl rfl (ci := 9) (q1 := 0) rfl rfl rfl (Nat.le_of_ble_eq_true rfl) ⟨rfl, rfl, Nat.le_of_ble_eq_true rfl, Nat.le_of_ble_eq_true rfl⟩ dX11_mended_3 ?_
  refine g_if_ne (tgt := 17) cx hf dX11_mended_6 rfl (fun hf => ?_) (fun hf => ?_)
  · refine g_ic cx dX11_mended_17 k_icm1 ?_
    exact g_iret (ovf := fun (r : Int32 × S3) => (some (.int r.1))) (wf := fun (r : Int32 × S3) => (w_X11_mended o o_mending o_told o_told_forms o_told_paper o_told_words o_text o_verdict o_trial o_guess o_choice o_firstImage o_secondImage o_spare o_told_stock cB cI cJ cZ s_o r.2 s_o_told s_o_told_forms s_o_told_paper s_o_told_words (.ref (o_told 0)) (.ref (o_spare 0)))) cx hA hr hf rfl rfl dX11_mended_18
  · refine g_aln cx 0 dX11_mended_9 rfl ?_
    refine g_iln cx 3 dX11_mended_10 rfl ?_
    refine ob hf (fun q_2 hq_2 hf => ?_)
    refine g_callVGiR cx lk_RX11_196 (c_X11_isNoLineNorAll l D cB cI cJ cZ o o_told o_told_paper o_text o_verdict o_trial o_mending o_guess o_choice o_firstImage o_secondImage o_spare o_told_words o_told_forms o_told_stock s_o s_o_told s_o_told_paper x3 q_2 hq_2) rfl [0, 2, 4] rfl rfl (ci := 9) (q1 := 0) rfl rfl rfl (Nat.le_of_ble_eq_true rfl) ⟨rfl, rfl, Nat.le_of_ble_eq_true rfl, Nat.le_of_ble_eq_true rfl⟩ dX11_mended_11 ?_
    refine g_if_eq (tgt := 19) cx hf dX11_mended_14 rfl (fun hf => ?_) (fun hf => ?_)
    · refine g_aln cx 0 dX11_mended_19 rfl ?_
      refine fg_RX11_35 cx 0 rfl rfl dX11_mended_20 ?_
      refine g_aln cx 0 dX11_mended_23 rfl ?_
      refine fg_RX11_62 cx 0 rfl rfl dX11_mended_24 ?_
      refine g_iln cx 1 dX11_mended_27 rfl ?_
      refine g_iln cx 2 dX11_mended_28 rfl ?_
      refine ob hf (fun q_3 hq_3 hf => ?_)
      refine g_callVGi (gs' := [(gX11 o cB cI cJ cZ (o_text 0) (o_verdict 0) (o_trial 0) (o_mending 0) (o_guess 0) (o_choice 0) (o_firstImage 0) (o_secondImage 0) (.ref (o_told 0)) (.ref (o_spare 0)) s_o), (gX3 o_mending cB cI cJ cZ q_3.2), (gX7 o_told cB cI cJ cZ (o_told_words 0) (o_told_forms 0) (o_told_paper 0) (o_told_stock 0) s_o_told), (gX1 o_told_forms cB cI cJ cZ s_o_told_forms), (gX4 o_told_paper cB cI cJ cZ s_o_told_paper), (gX10 o_told_words cB cI cJ cZ s_o_told_words)]) cx lk_RX11_199 (c_X3_mend l D cB cI cJ cZ o_told o_mending o_told_forms o_told_paper o_told_words o_told_stock s_o_told s_o_mending s_o_told_forms s_o_told_paper s_o_told_words x1 x2 q_3 hq_3) rfl [2, 1, 3, 4, 5] rfl rfl rfl rfl (ci := 3) (q1 := 2) rfl rfl rfl (Nat.le_of_ble_eq_true rfl) ⟨rfl, rfl, Nat.le_of_ble_eq_true rfl, Nat.le_of_ble_eq_true rfl⟩ dX11_mended_29 ?_
      refine g_is cx (L2 := fun v4_4 => [(4, .int v4_4), (0, .ref (o 0)), (1, .int x1), (2, .int x2), (3, .int x3)]) hf dX11_mended_32 (Nat.le_of_ble_eq_true rfl) (fun _ => rfl) (fun v4_4 hf => ?_)
      refine g_il cx 0 dX11_mended_34 rfl ?_
      refine g_if_lt (tgt := 43) cx hf dX11_mended_36 rfl (fun hf => ?_) (fun hf => ?_)
      · refine g_il cx 0 dX11_mended_43 rfl ?_
        refine g_goto (tgt := 56) cx dX11_mended_45 rfl ?_
        exact g_iret (ovf := fun (r : Int32 × S3) => (some (.int r.1))) (wf := fun (r : Int32 × S3) => (w_X11_mended o o_mending o_told o_told_forms o_told_paper o_told_words o_text o_verdict o_trial o_guess o_choice o_firstImage o_secondImage o_spare o_told_stock cB cI cJ cZ s_o r.2 s_o_told s_o_told_forms s_o_told_paper s_o_told_words (.ref (o_told 0)) (.ref (o_spare 0)))) cx hA hr hf rfl rfl dX11_mended_56
      · refine g_iln cx 4 dX11_mended_39 rfl ?_
        refine g_if_ge (tgt := 48) cx hf dX11_mended_40 rfl (fun hf => ?_) (fun hf => ?_)
        · refine g_aln cx 1 dX11_mended_48 rfl ?_
          refine fg_RX11_35 cx 0 rfl rfl dX11_mended_49 ?_
          refine g_iln cx 4 dX11_mended_52 rfl ?_
          refine ob hf (fun q_5 hq_5 hf => ?_)
          refine g_callVGiR cx lk_RX11_203 (c_X3_wordAt l D cB cI cJ cZ o_mending q_3.2 x3 q_5 hq_5) rfl [1] rfl rfl (ci := 3) (q1 := 0) rfl rfl rfl (Nat.le_of_ble_eq_true rfl) ⟨rfl, rfl, Nat.le_of_ble_eq_true rfl, Nat.le_of_ble_eq_true rfl⟩ dX11_mended_53 ?_
          exact g_iret (ovf := fun (r : Int32 × S3) => (some (.int r.1))) (wf := fun (r : Int32 × S3) => (w_X11_mended o o_mending o_told o_told_forms o_told_paper o_told_words o_text o_verdict o_trial o_guess o_choice o_firstImage o_secondImage o_spare o_told_stock cB cI cJ cZ s_o r.2 s_o_told s_o_told_forms s_o_told_paper s_o_told_words (.ref (o_told 0)) (.ref (o_spare 0)))) cx hA hr hf rfl rfl dX11_mended_56
        · refine g_il cx 0 dX11_mended_43 rfl ?_
          refine g_goto (tgt := 56) cx dX11_mended_45 rfl ?_
          exact g_iret (ovf := fun (r : Int32 × S3) => (some (.int r.1))) (wf := fun (r : Int32 × S3) => (w_X11_mended o o_mending o_told o_told_forms o_told_paper o_told_words o_text o_verdict o_trial o_guess o_choice o_firstImage o_secondImage o_spare o_told_stock cB cI cJ cZ s_o r.2 s_o_told s_o_told_forms s_o_told_paper s_o_told_words (.ref (o_told 0)) (.ref (o_spare 0)))) cx hA hr hf rfl rfl dX11_mended_56
    · refine g_ic cx dX11_mended_17 k_icm1 ?_
      exact g_iret (ovf := fun (r : Int32 × S3) => (some (.int r.1))) (wf := fun (r : Int32 × S3) => (w_X11_mended o o_mending o_told o_told_forms o_told_paper o_told_words o_text o_verdict o_trial o_guess o_choice o_firstImage o_secondImage o_spare o_told_stock cB cI cJ cZ s_o r.2 s_o_told s_o_told_forms s_o_told_paper s_o_told_words (.ref (o_told 0)) (.ref (o_spare 0)))) cx hA hr hf rfl rfl dX11_mended_18
theorem dX11_shortest_0 : decode cX11_shortest 0 = .ok (.aload_n 0, 1) := by decide +kernel
theorem dX11_shortest_1 : decode cX11_shortest 1 = .ok (.iload_n 1, 1) := by decide +kernel
theorem dX11_shortest_2 : decode cX11_shortest 2 = .ok (.iload_n 2, 1) := by decide +kernel
theorem dX11_shortest_3 : decode cX11_shortest 3 = .ok (.invokevirtual 157, 3) := by decide +kernel
theorem dX11_shortest_6 : decode cX11_shortest 6 = .ok (.ifCond .ne 20, 3) := by decide +kernel
theorem dX11_shortest_9 : decode cX11_shortest 9 = .ok (.iload_n 3, 1) := by decide +kernel
theorem dX11_shortest_10 : decode cX11_shortest 10 = .ok (.ifCond .lt 16, 3) := by decide +kernel
theorem dX11_shortest_13 : decode cX11_shortest 13 = .ok (.iload_n 3, 1) := by decide +kernel
theorem dX11_shortest_14 : decode cX11_shortest 14 = .ok (.sipush 1023, 3) := by decide +kernel
theorem dX11_shortest_17 : decode cX11_shortest 17 = .ok (.if_icmp .gt 9, 3) := by decide +kernel
theorem dX11_shortest_20 : decode cX11_shortest 20 = .ok (.iload 4, 2) := by decide +kernel
theorem dX11_shortest_22 : decode cX11_shortest 22 = .ok (.iconst (-1), 1) := by decide +kernel
theorem dX11_shortest_23 : decode cX11_shortest 23 = .ok (.if_icmp .ge 5, 3) := by decide +kernel
theorem dX11_shortest_26 : decode cX11_shortest 26 = .ok (.iconst (-1), 1) := by decide +kernel
theorem dX11_shortest_27 : decode cX11_shortest 27 = .ok (.ireturn, 1) := by decide +kernel
theorem dX11_shortest_28 : decode cX11_shortest 28 = .ok (.aload_n 0, 1) := by decide +kernel
theorem dX11_shortest_29 : decode cX11_shortest 29 = .ok (.getfield 49, 3) := by decide +kernel
theorem dX11_shortest_32 : decode cX11_shortest 32 = .ok (.aload_n 0, 1) := by decide +kernel
theorem dX11_shortest_33 : decode cX11_shortest 33 = .ok (.getfield 62, 3) := by decide +kernel
theorem dX11_shortest_36 : decode cX11_shortest 36 = .ok (.iload_n 1, 1) := by decide +kernel
theorem dX11_shortest_37 : decode cX11_shortest 37 = .ok (.iload_n 2, 1) := by decide +kernel
theorem dX11_shortest_38 : decode cX11_shortest 38 = .ok (.iload_n 3, 1) := by decide +kernel
theorem dX11_shortest_39 : decode cX11_shortest 39 = .ok (.invokevirtual 204, 3) := by decide +kernel
theorem dX11_shortest_42 : decode cX11_shortest 42 = .ok (.istore 5, 2) := by decide +kernel
theorem dX11_shortest_44 : decode cX11_shortest 44 = .ok (.iload 5, 2) := by decide +kernel
theorem dX11_shortest_46 : decode cX11_shortest 46 = .ok (.ifCond .lt 8, 3) := by decide +kernel
theorem dX11_shortest_49 : decode cX11_shortest 49 = .ok (.iload 4, 2) := by decide +kernel
theorem dX11_shortest_51 : decode cX11_shortest 51 = .ok (.ifCond .ge 6, 3) := by decide +kernel
theorem dX11_shortest_54 : decode cX11_shortest 54 = .ok (.iload 5, 2) := by decide +kernel
theorem dX11_shortest_56 : decode cX11_shortest 56 = .ok (.ireturn, 1) := by decide +kernel
theorem dX11_shortest_57 : decode cX11_shortest 57 = .ok (.iload 4, 2) := by decide +kernel
theorem dX11_shortest_59 : decode cX11_shortest 59 = .ok (.iload 5, 2) := by decide +kernel
theorem dX11_shortest_61 : decode cX11_shortest 61 = .ok (.if_icmp .ge 15, 3) := by decide +kernel
theorem dX11_shortest_64 : decode cX11_shortest 64 = .ok (.aload_n 0, 1) := by decide +kernel
theorem dX11_shortest_65 : decode cX11_shortest 65 = .ok (.getfield 49, 3) := by decide +kernel
theorem dX11_shortest_68 : decode cX11_shortest 68 = .ok (.iload 4, 2) := by decide +kernel
theorem dX11_shortest_70 : decode cX11_shortest 70 = .ok (.invokevirtual 208, 3) := by decide +kernel
theorem dX11_shortest_73 : decode cX11_shortest 73 = .ok (.goto 5, 3) := by decide +kernel
theorem dX11_shortest_76 : decode cX11_shortest 76 = .ok (.bipush (-5), 2) := by decide +kernel
theorem dX11_shortest_78 : decode cX11_shortest 78 = .ok (.ireturn, 1) := by decide +kernel
theorem k_bpm5 : (Int8.ofInt (-5)).toInt32 = (-5) := by decide
theorem k_sp1023 : (Int16.ofInt (1023)).toInt32 = 1023 := by decide
theorem q1_237 : Cond.fieldLink RX11 49 "RhymeLaw" "choice" "LRhymeLaw$Choice;" ∈ TT := tq1 237 rfl rfl
theorem q4_38 : Cond.methodLink RX11 204 yX0_find ∈ TT := tq4 38 rfl rfl
theorem q4_39 : Cond.instanceMethod yX0_find ∈ TT := tq4 39 rfl rfl
theorem q4_40 : Cond.selects RX0 yX0_find yX0_find ∈ TT := tq4 40 rfl rfl
theorem q4_41 : Cond.code yX0_find cX0_find 6 (some .int) ∈ TT := tq4 41 rfl rfl
theorem q4_76 : Cond.methodLink RX11 208 yX0_pickAt ∈ TT := tq4 76 rfl rfl
theorem q4_77 : Cond.instanceMethod yX0_pickAt ∈ TT := tq4 77 rfl rfl
theorem q4_78 : Cond.selects RX0 yX0_pickAt yX0_pickAt ∈ TT := tq4 78 rfl rfl
theorem q4_79 : Cond.code yX0_pickAt cX0_pickAt 2 (some .int) ∈ TT := tq4 79 rfl rfl
theorem fg_RX11_49 {p : Program} {l : Launch} {e : Env} {R : Room} {s : State} {m : MethodId} {args : Array Value} {below : List Frame} {meth : Method} {c : Code} {D : gG} {tys : List (ClassId × FieldType)} {A : Nat → Prop} {nL : Nat} {Q : State → Prop} {cells slots : Nat} {cc : ByteArray} {ws : va_W} {L : List (Nat × Value)} {pc : Nat} {stk : List Value} (cx : gX p s m args meth c cc nL RX11 D tys A) {a : Nat} {fs : List Value} {v : Value} (q0 : Nat) (he : ws[q0]? = some (a, .inr (9, fs))) (hv : fs[5]? = some v) (hd : decode cc pc = .ok (.getfield 49, 3)) (kk : gW p l e R s m args below meth c D A nL Q cells slots ws L (pc + 3) (v :: stk)) : gW p l e R s m args below meth c D A nL Q cells slots ws L pc (.ref a :: stk) :=
  g_get cx (C := RX11) (T := TX11) (N := 12) inT11 rfl 5 (Nat.le_of_ble_eq_true rfl) q1_237 rfl q0 he hv hd kk
theorem lk_RX11_204 : vlk RX11 204 yX0_find cX0_find 6 (some .int) 4 := ⟨List.forall_mem_cons.mpr ⟨q4_38, List.forall_mem_cons.mpr ⟨q4_39, List.forall_mem_cons.mpr ⟨q4_40, List.forall_mem_cons.mpr ⟨q1_8, fun _ h => absurd h List.not_mem_nil⟩⟩⟩⟩, q4_41, by decide, by decide, by decide +kernel⟩
theorem lk_RX11_208 : vlk RX11 208 yX0_pickAt cX0_pickAt 2 (some .int) 1 := ⟨List.forall_mem_cons.mpr ⟨q4_76, List.forall_mem_cons.mpr ⟨q4_77, List.forall_mem_cons.mpr ⟨q4_78, List.forall_mem_cons.mpr ⟨q1_8, fun _ h => absurd h List.not_mem_nil⟩⟩⟩⟩, q4_79, by decide, by decide, by decide +kernel⟩
def F_X11_shortest_0 (s_o : S11) (s_o_choice : S0) (s_o_told : S7) (s_o_choice_row : S4) (s_o_told_forms : S1) (s_o_told_stock : S4) (s_o_told_words : S10) (x1 : Int32) (x2 : Int32) (x3 : Int32) (x4 : Int32) : Option (Int32 × S0 × S4) := (F_X11_isNoView s_o s_o_told s_o_told_forms x1 x2).bind fun q_1 => (if q_1 = 0 then (if x3 < 0 then some ((-1), s_o_choice, s_o_choice_row) else (if 1023 < x3 then some ((-1), s_o_choice, s_o_choice_row) else (if (-1) ≤ x4 then (F_X0_find s_o_told s_o_choice s_o_told_forms s_o_told_stock s_o_told_words s_o_choice_row x1 x2 x3).bind fun q_2 => nm q_2.1 fun v5_3 => (if v5_3 < 0 then none else (if 0 ≤ x4 then (if v5_3 ≤ x4 then none else (F_X0_pickAt q_2.2.1 x4).bind fun q_4 => none) else none)) else some ((-1), s_o_choice, s_o_choice_row)))) else some ((-1), s_o_choice, s_o_choice_row))
def w_X11_shortest_0 (o o_choice o_told o_choice_row o_told_forms o_told_stock o_told_words o_text o_verdict o_trial o_mending o_guess o_firstImage o_secondImage o_spare o_choice_tale o_told_paper : Nat → Nat) (cB cI cJ cZ : ClassId) (s_o : S11) (s_o_choice : S0) (s_o_told : S7) (s_o_choice_row : S4) (s_o_told_forms : S1) (s_o_told_stock : S4) (s_o_told_words : S10) (rf_o_told : Value) (rf_o_spare : Value) (rf_o_choice_tale : Value) : va_W := List.flatten [(gX11 o cB cI cJ cZ (o_text 0) (o_verdict 0) (o_trial 0) (o_mending 0) (o_guess 0) (o_choice 0) (o_firstImage 0) (o_secondImage 0) rf_o_told rf_o_spare s_o), (gX0 o_choice cB cI cJ cZ (o_choice_row 0) rf_o_choice_tale s_o_choice), (gX7 o_told cB cI cJ cZ (o_told_words 0) (o_told_forms 0) (o_told_paper 0) (o_told_stock 0) s_o_told), (gX4 o_choice_row cB cI cJ cZ s_o_choice_row), (gX1 o_told_forms cB cI cJ cZ s_o_told_forms), (gX4 o_told_stock cB cI cJ cZ s_o_told_stock), (gX10 o_told_words cB cI cJ cZ s_o_told_words)]
abbrev rm_X11_shortest_0 : Room := { frames := 14, cells := 0, slots := 0, locals := 335 }
set_option maxHeartbeats 4000000 in
set_option maxRecDepth 100000 in
theorem c_X11_shortest_0 (l : Launch) (D : gG) (cB cI cJ cZ : ClassId) (o o_choice o_told o_choice_row o_told_forms o_told_stock o_told_words o_text o_verdict o_trial o_mending o_guess o_firstImage o_secondImage o_spare o_choice_tale o_told_paper : Nat → Nat) (s_o : S11) (s_o_choice : S0) (s_o_told : S7) (s_o_choice_row : S4) (s_o_told_forms : S1) (s_o_told_stock : S4) (s_o_told_words : S10) (x1 : Int32) (x2 : Int32) (x3 : Int32) (x4 : Int32) (rv_o_choice_tale : Value) (r : Int32 × S0 × S4) (hf : F_X11_shortest_0 s_o s_o_choice s_o_told s_o_choice_row s_o_told_forms s_o_told_stock s_o_told_words x1 x2 x3 x4 = some r) : gM l D (tyL cB cI cJ cZ) yX11_shortest cX11_shortest 6 (some .int) rm_X11_shortest_0 [.ref (o 0), .int x1, .int x2, .int x3, .int x4] (w_X11_shortest_0 o o_choice o_told o_choice_row o_told_forms o_told_stock o_told_words o_text o_verdict o_trial o_mending o_guess o_firstImage o_secondImage o_spare o_choice_tale o_told_paper cB cI cJ cZ s_o s_o_choice s_o_told s_o_choice_row s_o_told_forms s_o_told_stock s_o_told_words (.ref (o_told 0)) (.ref (o_spare 0)) rv_o_choice_tale) (some (.int r.1)) (w_X11_shortest_0 o o_choice o_told o_choice_row o_told_forms o_told_stock o_told_words o_text o_verdict o_trial o_mending o_guess o_firstImage o_secondImage o_spare o_choice_tale o_told_paper cB cI cJ cZ s_o r.2.1 s_o_told r.2.2 s_o_told_forms s_o_told_stock s_o_told_words (.ref (o_told 0)) (.ref (o_spare 0)) rv_o_choice_tale) := by
  refine met_of (by decide) (Nat.le_of_ble_eq_true rfl) ?_
  intro p e s m args below meth c A cx hr hA
  show gW p l e rm_X11_shortest_0 s m args below meth c D A 6 _ 0 0 _ [(0, .ref (o 0)), (1, .int x1), (2, .int x2), (3, .int x3), (4, .int x4)] 0 []
  rw [F_X11_shortest_0] at hf
  refine g_aln cx 0 dX11_shortest_0 rfl ?_
  refine g_iln cx 1 dX11_shortest_1 rfl ?_
  refine g_iln cx 2 dX11_shortest_2 rfl ?_
  refine ob hf (fun q_1 hq_1 hf => ?_)
  refine g_callVGiR cx lk_RX11_157 (c_X11_isNoView l D cB cI cJ cZ o o_told o_told_forms o_text o_verdict o_trial o_mending o_guess o_choice o_firstImage o_secondImage o_spare o_told_words o_told_paper o_told_stock s_o s_o_told s_o_told_forms x1 x2 q_1 hq_1) rfl [0, 2, 4] rfl rfl (ci := 9) (q1 := 0) rfl rfl rfl (Nat.le_of_ble_eq_true rfl) ⟨rfl, rfl, Nat.le_of_ble_eq_true rfl, Nat.le_of_ble_eq_true rfl⟩ dX11_shortest_3 ?_
  refine g_if_ne (tgt := 26) cx hf dX11_shortest_6 rfl (fun hf => ?_) (fun hf => ?_)
  · refine g_ic cx dX11_shortest_26 k_icm1 ?_
    exact g_iret (ovf := fun (r : Int32 × S0 × S4) => (some (.int r.1))) (wf := fun (r : Int32 × S0 × S4) => (w_X11_shortest_0 o o_choice o_told o_choice_row o_told_forms o_told_stock o_told_words o_text o_verdict o_trial o_mending o_guess o_firstImage o_secondImage o_spare o_choice_tale o_told_paper cB cI cJ cZ s_o r.2.1 s_o_told r.2.2 s_o_told_forms s_o_told_stock s_o_told_words (.ref (o_told 0)) (.ref (o_spare 0)) rv_o_choice_tale)) cx hA hr hf rfl rfl dX11_shortest_27
  · refine g_iln cx 3 dX11_shortest_9 rfl ?_
    refine g_if_lt (tgt := 26) cx hf dX11_shortest_10 rfl (fun hf => ?_) (fun hf => ?_)
    · refine g_ic cx dX11_shortest_26 k_icm1 ?_
      exact g_iret (ovf := fun (r : Int32 × S0 × S4) => (some (.int r.1))) (wf := fun (r : Int32 × S0 × S4) => (w_X11_shortest_0 o o_choice o_told o_choice_row o_told_forms o_told_stock o_told_words o_text o_verdict o_trial o_mending o_guess o_firstImage o_secondImage o_spare o_choice_tale o_told_paper cB cI cJ cZ s_o r.2.1 s_o_told r.2.2 s_o_told_forms s_o_told_stock s_o_told_words (.ref (o_told 0)) (.ref (o_spare 0)) rv_o_choice_tale)) cx hA hr hf rfl rfl dX11_shortest_27
    · refine g_iln cx 3 dX11_shortest_13 rfl ?_
      refine g_sp cx dX11_shortest_14 k_sp1023 ?_
      refine g_ic_gt (tgt := 26) cx hf dX11_shortest_17 rfl (fun hf => ?_) (fun hf => ?_)
      · refine g_ic cx dX11_shortest_26 k_icm1 ?_
        exact g_iret (ovf := fun (r : Int32 × S0 × S4) => (some (.int r.1))) (wf := fun (r : Int32 × S0 × S4) => (w_X11_shortest_0 o o_choice o_told o_choice_row o_told_forms o_told_stock o_told_words o_text o_verdict o_trial o_mending o_guess o_firstImage o_secondImage o_spare o_choice_tale o_told_paper cB cI cJ cZ s_o r.2.1 s_o_told r.2.2 s_o_told_forms s_o_told_stock s_o_told_words (.ref (o_told 0)) (.ref (o_spare 0)) rv_o_choice_tale)) cx hA hr hf rfl rfl dX11_shortest_27
      · refine g_il cx 4 dX11_shortest_20 rfl ?_
        refine g_ic cx dX11_shortest_22 k_icm1 ?_
        refine g_ic_ge (tgt := 28) cx hf dX11_shortest_23 rfl (fun hf => ?_) (fun hf => ?_)
        · refine g_aln cx 0 dX11_shortest_28 rfl ?_
          refine fg_RX11_49 cx 0 rfl rfl dX11_shortest_29 ?_
          refine g_aln cx 0 dX11_shortest_32 rfl ?_
          refine fg_RX11_62 cx 0 rfl rfl dX11_shortest_33 ?_
          refine g_iln cx 1 dX11_shortest_36 rfl ?_
          refine g_iln cx 2 dX11_shortest_37 rfl ?_
          refine g_iln cx 3 dX11_shortest_38 rfl ?_
          refine ob hf (fun q_2 hq_2 hf => ?_)
          refine g_callVGi (gs' := [(gX11 o cB cI cJ cZ (o_text 0) (o_verdict 0) (o_trial 0) (o_mending 0) (o_guess 0) (o_choice 0) (o_firstImage 0) (o_secondImage 0) (.ref (o_told 0)) (.ref (o_spare 0)) s_o), (gX0 o_choice cB cI cJ cZ (o_choice_row 0) (.ref (o_told 0)) q_2.2.1), (gX7 o_told cB cI cJ cZ (o_told_words 0) (o_told_forms 0) (o_told_paper 0) (o_told_stock 0) s_o_told), (gX4 o_choice_row cB cI cJ cZ q_2.2.2), (gX1 o_told_forms cB cI cJ cZ s_o_told_forms), (gX4 o_told_stock cB cI cJ cZ s_o_told_stock), (gX10 o_told_words cB cI cJ cZ s_o_told_words)]) cx lk_RX11_204 (c_X0_find l D cB cI cJ cZ o_told o_choice o_told_forms o_told_stock o_told_words o_choice_row o_told_paper o_choice_tale s_o_told s_o_choice s_o_told_forms s_o_told_stock s_o_told_words s_o_choice_row x1 x2 x3 rv_o_choice_tale q_2 hq_2) rfl [2, 1, 4, 5, 6, 3] rfl rfl rfl rfl (ci := 0) (q1 := 2) rfl rfl rfl (Nat.le_of_ble_eq_true rfl) ⟨rfl, rfl, Nat.le_of_ble_eq_true rfl, Nat.le_of_ble_eq_true rfl⟩ dX11_shortest_39 ?_
          refine g_is cx (L2 := fun v5_3 => [(5, .int v5_3), (0, .ref (o 0)), (1, .int x1), (2, .int x2), (3, .int x3), (4, .int x4)]) hf dX11_shortest_42 (Nat.le_of_ble_eq_true rfl) (fun _ => rfl) (fun v5_3 hf => ?_)
          refine g_il cx 0 dX11_shortest_44 rfl ?_
          refine g_if_lt (tgt := 54) cx hf dX11_shortest_46 rfl (fun hf => ?_) (fun hf => ?_)
          · refine g_il cx 0 dX11_shortest_54 rfl ?_
            cases hf
          · refine g_il cx 5 dX11_shortest_49 rfl ?_
            refine g_if_ge (tgt := 57) cx hf dX11_shortest_51 rfl (fun hf => ?_) (fun hf => ?_)
            · refine g_il cx 5 dX11_shortest_57 rfl ?_
              refine g_il cx 0 dX11_shortest_59 rfl ?_
              refine g_ic_ge (tgt := 76) cx hf dX11_shortest_61 rfl (fun hf => ?_) (fun hf => ?_)
              · refine g_bp cx dX11_shortest_76 k_bpm5 ?_
                cases hf
              · refine g_aln cx 1 dX11_shortest_64 rfl ?_
                refine fg_RX11_49 cx 0 rfl rfl dX11_shortest_65 ?_
                refine g_il cx 5 dX11_shortest_68 rfl ?_
                refine ob hf (fun q_4 hq_4 hf => ?_)
                refine g_callVGiR cx lk_RX11_208 (c_X0_pickAt l D cB cI cJ cZ o_choice o_choice_row o_told q_2.2.1 x4 q_4 hq_4) rfl [1] rfl rfl (ci := 0) (q1 := 0) rfl rfl rfl (Nat.le_of_ble_eq_true rfl) ⟨rfl, rfl, Nat.le_of_ble_eq_true rfl, Nat.le_of_ble_eq_true rfl⟩ dX11_shortest_70 ?_
                refine g_goto (tgt := 78) cx dX11_shortest_73 rfl ?_
                cases hf
            · refine g_il cx 0 dX11_shortest_54 rfl ?_
              cases hf
        · refine g_ic cx dX11_shortest_26 k_icm1 ?_
          exact g_iret (ovf := fun (r : Int32 × S0 × S4) => (some (.int r.1))) (wf := fun (r : Int32 × S0 × S4) => (w_X11_shortest_0 o o_choice o_told o_choice_row o_told_forms o_told_stock o_told_words o_text o_verdict o_trial o_mending o_guess o_firstImage o_secondImage o_spare o_choice_tale o_told_paper cB cI cJ cZ s_o r.2.1 s_o_told r.2.2 s_o_told_forms s_o_told_stock s_o_told_words (.ref (o_told 0)) (.ref (o_spare 0)) rv_o_choice_tale)) cx hA hr hf rfl rfl dX11_shortest_27


def F_X11_shortest_1 (s_o : S11) (s_o_choice : S0) (s_o_told : S7) (s_o_choice_row : S4) (s_o_told_forms : S1) (s_o_told_stock : S4) (s_o_told_words : S10) (x1 : Int32) (x2 : Int32) (x3 : Int32) (x4 : Int32) : Option (Int32 × S0 × S4) := (F_X11_isNoView s_o s_o_told s_o_told_forms x1 x2).bind fun q_1 => (if q_1 = 0 then (if x3 < 0 then none else (if 1023 < x3 then none else (if (-1) ≤ x4 then (F_X0_find s_o_told s_o_choice s_o_told_forms s_o_told_stock s_o_told_words s_o_choice_row x1 x2 x3).bind fun q_2 => nm q_2.1 fun v5_3 => (if v5_3 < 0 then some (v5_3, q_2.2.1, q_2.2.2) else (if 0 ≤ x4 then (if v5_3 ≤ x4 then some ((-5), q_2.2.1, q_2.2.2) else (F_X0_pickAt q_2.2.1 x4).bind fun q_4 => some (q_4, q_2.2.1, q_2.2.2)) else some (v5_3, q_2.2.1, q_2.2.2))) else none))) else none)
def w_X11_shortest_1 (o o_choice o_told o_choice_row o_told_forms o_told_stock o_told_words o_text o_verdict o_trial o_mending o_guess o_firstImage o_secondImage o_spare o_choice_tale o_told_paper : Nat → Nat) (cB cI cJ cZ : ClassId) (s_o : S11) (s_o_choice : S0) (s_o_told : S7) (s_o_choice_row : S4) (s_o_told_forms : S1) (s_o_told_stock : S4) (s_o_told_words : S10) (rf_o_told : Value) (rf_o_spare : Value) (rf_o_choice_tale : Value) : va_W := List.flatten [(gX11 o cB cI cJ cZ (o_text 0) (o_verdict 0) (o_trial 0) (o_mending 0) (o_guess 0) (o_choice 0) (o_firstImage 0) (o_secondImage 0) rf_o_told rf_o_spare s_o), (gX0 o_choice cB cI cJ cZ (o_choice_row 0) rf_o_choice_tale s_o_choice), (gX7 o_told cB cI cJ cZ (o_told_words 0) (o_told_forms 0) (o_told_paper 0) (o_told_stock 0) s_o_told), (gX4 o_choice_row cB cI cJ cZ s_o_choice_row), (gX1 o_told_forms cB cI cJ cZ s_o_told_forms), (gX4 o_told_stock cB cI cJ cZ s_o_told_stock), (gX10 o_told_words cB cI cJ cZ s_o_told_words)]
abbrev rm_X11_shortest_1 : Room := { frames := 14, cells := 0, slots := 0, locals := 335 }
set_option maxHeartbeats 4000000 in
set_option maxRecDepth 100000 in
theorem c_X11_shortest_1 (l : Launch) (D : gG) (cB cI cJ cZ : ClassId) (o o_choice o_told o_choice_row o_told_forms o_told_stock o_told_words o_text o_verdict o_trial o_mending o_guess o_firstImage o_secondImage o_spare o_choice_tale o_told_paper : Nat → Nat) (s_o : S11) (s_o_choice : S0) (s_o_told : S7) (s_o_choice_row : S4) (s_o_told_forms : S1) (s_o_told_stock : S4) (s_o_told_words : S10) (x1 : Int32) (x2 : Int32) (x3 : Int32) (x4 : Int32) (rv_o_choice_tale : Value) (r : Int32 × S0 × S4) (hf : F_X11_shortest_1 s_o s_o_choice s_o_told s_o_choice_row s_o_told_forms s_o_told_stock s_o_told_words x1 x2 x3 x4 = some r) : gM l D (tyL cB cI cJ cZ) yX11_shortest cX11_shortest 6 (some .int) rm_X11_shortest_1 [.ref (o 0), .int x1, .int x2, .int x3, .int x4] (w_X11_shortest_1 o o_choice o_told o_choice_row o_told_forms o_told_stock o_told_words o_text o_verdict o_trial o_mending o_guess o_firstImage o_secondImage o_spare o_choice_tale o_told_paper cB cI cJ cZ s_o s_o_choice s_o_told s_o_choice_row s_o_told_forms s_o_told_stock s_o_told_words (.ref (o_told 0)) (.ref (o_spare 0)) rv_o_choice_tale) (some (.int r.1)) (w_X11_shortest_1 o o_choice o_told o_choice_row o_told_forms o_told_stock o_told_words o_text o_verdict o_trial o_mending o_guess o_firstImage o_secondImage o_spare o_choice_tale o_told_paper cB cI cJ cZ s_o r.2.1 s_o_told r.2.2 s_o_told_forms s_o_told_stock s_o_told_words (.ref (o_told 0)) (.ref (o_spare 0)) (.ref (o_told 0))) := by
  refine met_of (by decide) (Nat.le_of_ble_eq_true rfl) ?_
  intro p e s m args below meth c A cx hr hA
  show gW p l e rm_X11_shortest_1 s m args below meth c D A 6 _ 0 0 _ [(0, .ref (o 0)), (1, .int x1), (2, .int x2), (3, .int x3), (4, .int x4)] 0 []
  rw [F_X11_shortest_1] at hf
  refine g_aln cx 0 dX11_shortest_0 rfl ?_
  refine g_iln cx 1 dX11_shortest_1 rfl ?_
  refine g_iln cx 2 dX11_shortest_2 rfl ?_
  refine ob hf (fun q_1 hq_1 hf => ?_)
  refine g_callVGiR cx lk_RX11_157 (c_X11_isNoView l D cB cI cJ cZ o o_told o_told_forms o_text o_verdict o_trial o_mending o_guess o_choice o_firstImage o_secondImage o_spare o_told_words o_told_paper o_told_stock s_o s_o_told s_o_told_forms x1 x2 q_1 hq_1) rfl [0, 2, 4] rfl rfl (ci := 9) (q1 := 0) rfl rfl rfl (Nat.le_of_ble_eq_true rfl) ⟨rfl, rfl, Nat.le_of_ble_eq_true rfl, Nat.le_of_ble_eq_true rfl⟩ dX11_shortest_3 ?_
  refine g_if_ne (tgt := 26) cx hf dX11_shortest_6 rfl (fun hf => ?_) (fun hf => ?_)
  · refine g_ic cx dX11_shortest_26 k_icm1 ?_
    cases hf
  · refine g_iln cx 3 dX11_shortest_9 rfl ?_
    refine g_if_lt (tgt := 26) cx hf dX11_shortest_10 rfl (fun hf => ?_) (fun hf => ?_)
    · refine g_ic cx dX11_shortest_26 k_icm1 ?_
      cases hf
    · refine g_iln cx 3 dX11_shortest_13 rfl ?_
      refine g_sp cx dX11_shortest_14 k_sp1023 ?_
      refine g_ic_gt (tgt := 26) cx hf dX11_shortest_17 rfl (fun hf => ?_) (fun hf => ?_)
      · refine g_ic cx dX11_shortest_26 k_icm1 ?_
        cases hf
      · refine g_il cx 4 dX11_shortest_20 rfl ?_
        refine g_ic cx dX11_shortest_22 k_icm1 ?_
        refine g_ic_ge (tgt := 28) cx hf dX11_shortest_23 rfl (fun hf => ?_) (fun hf => ?_)
        · refine g_aln cx 0 dX11_shortest_28 rfl ?_
          refine fg_RX11_49 cx 0 rfl rfl dX11_shortest_29 ?_
          refine g_aln cx 0 dX11_shortest_32 rfl ?_
          refine fg_RX11_62 cx 0 rfl rfl dX11_shortest_33 ?_
          refine g_iln cx 1 dX11_shortest_36 rfl ?_
          refine g_iln cx 2 dX11_shortest_37 rfl ?_
          refine g_iln cx 3 dX11_shortest_38 rfl ?_
          refine ob hf (fun q_2 hq_2 hf => ?_)
          refine g_callVGi (gs' := [(gX11 o cB cI cJ cZ (o_text 0) (o_verdict 0) (o_trial 0) (o_mending 0) (o_guess 0) (o_choice 0) (o_firstImage 0) (o_secondImage 0) (.ref (o_told 0)) (.ref (o_spare 0)) s_o), (gX0 o_choice cB cI cJ cZ (o_choice_row 0) (.ref (o_told 0)) q_2.2.1), (gX7 o_told cB cI cJ cZ (o_told_words 0) (o_told_forms 0) (o_told_paper 0) (o_told_stock 0) s_o_told), (gX4 o_choice_row cB cI cJ cZ q_2.2.2), (gX1 o_told_forms cB cI cJ cZ s_o_told_forms), (gX4 o_told_stock cB cI cJ cZ s_o_told_stock), (gX10 o_told_words cB cI cJ cZ s_o_told_words)]) cx lk_RX11_204 (c_X0_find l D cB cI cJ cZ o_told o_choice o_told_forms o_told_stock o_told_words o_choice_row o_told_paper o_choice_tale s_o_told s_o_choice s_o_told_forms s_o_told_stock s_o_told_words s_o_choice_row x1 x2 x3 rv_o_choice_tale q_2 hq_2) rfl [2, 1, 4, 5, 6, 3] rfl rfl rfl rfl (ci := 0) (q1 := 2) rfl rfl rfl (Nat.le_of_ble_eq_true rfl) ⟨rfl, rfl, Nat.le_of_ble_eq_true rfl, Nat.le_of_ble_eq_true rfl⟩ dX11_shortest_39 ?_
          refine g_is cx (L2 := fun v5_3 => [(5, .int v5_3), (0, .ref (o 0)), (1, .int x1), (2, .int x2), (3, .int x3), (4, .int x4)]) hf dX11_shortest_42 (Nat.le_of_ble_eq_true rfl) (fun _ => rfl) (fun v5_3 hf => ?_)
          refine g_il cx 0 dX11_shortest_44 rfl ?_
          refine g_if_lt (tgt := 54) cx hf dX11_shortest_46 rfl (fun hf => ?_) (fun hf => ?_)
          · refine g_il cx 0 dX11_shortest_54 rfl ?_
            exact g_iret (ovf := fun (r : Int32 × S0 × S4) => (some (.int r.1))) (wf := fun (r : Int32 × S0 × S4) => (w_X11_shortest_1 o o_choice o_told o_choice_row o_told_forms o_told_stock o_told_words o_text o_verdict o_trial o_mending o_guess o_firstImage o_secondImage o_spare o_choice_tale o_told_paper cB cI cJ cZ s_o r.2.1 s_o_told r.2.2 s_o_told_forms s_o_told_stock s_o_told_words (.ref (o_told 0)) (.ref (o_spare 0)) (.ref (o_told 0)))) cx hA hr hf rfl rfl dX11_shortest_56
          · refine g_il cx 5 dX11_shortest_49 rfl ?_
            refine g_if_ge (tgt := 57) cx hf dX11_shortest_51 rfl (fun hf => ?_) (fun hf => ?_)
            · refine g_il cx 5 dX11_shortest_57 rfl ?_
              refine g_il cx 0 dX11_shortest_59 rfl ?_
              refine g_ic_ge (tgt := 76) cx hf dX11_shortest_61 rfl (fun hf => ?_) (fun hf => ?_)
              · refine g_bp cx dX11_shortest_76 k_bpm5 ?_
                exact g_iret (ovf := fun (r : Int32 × S0 × S4) => (some (.int r.1))) (wf := fun (r : Int32 × S0 × S4) => (w_X11_shortest_1 o o_choice o_told o_choice_row o_told_forms o_told_stock o_told_words o_text o_verdict o_trial o_mending o_guess o_firstImage o_secondImage o_spare o_choice_tale o_told_paper cB cI cJ cZ s_o r.2.1 s_o_told r.2.2 s_o_told_forms s_o_told_stock s_o_told_words (.ref (o_told 0)) (.ref (o_spare 0)) (.ref (o_told 0)))) cx hA hr hf rfl rfl dX11_shortest_78
              · refine g_aln cx 1 dX11_shortest_64 rfl ?_
                refine fg_RX11_49 cx 0 rfl rfl dX11_shortest_65 ?_
                refine g_il cx 5 dX11_shortest_68 rfl ?_
                refine ob hf (fun q_4 hq_4 hf => ?_)
                refine g_callVGiR cx lk_RX11_208 (c_X0_pickAt l D cB cI cJ cZ o_choice o_choice_row o_told q_2.2.1 x4 q_4 hq_4) rfl [1] rfl rfl (ci := 0) (q1 := 0) rfl rfl rfl (Nat.le_of_ble_eq_true rfl) ⟨rfl, rfl, Nat.le_of_ble_eq_true rfl, Nat.le_of_ble_eq_true rfl⟩ dX11_shortest_70 ?_
                refine g_goto (tgt := 78) cx dX11_shortest_73 rfl ?_
                exact g_iret (ovf := fun (r : Int32 × S0 × S4) => (some (.int r.1))) (wf := fun (r : Int32 × S0 × S4) => (w_X11_shortest_1 o o_choice o_told o_choice_row o_told_forms o_told_stock o_told_words o_text o_verdict o_trial o_mending o_guess o_firstImage o_secondImage o_spare o_choice_tale o_told_paper cB cI cJ cZ s_o r.2.1 s_o_told r.2.2 s_o_told_forms s_o_told_stock s_o_told_words (.ref (o_told 0)) (.ref (o_spare 0)) (.ref (o_told 0)))) cx hA hr hf rfl rfl dX11_shortest_78
            · refine g_il cx 0 dX11_shortest_54 rfl ?_
              exact g_iret (ovf := fun (r : Int32 × S0 × S4) => (some (.int r.1))) (wf := fun (r : Int32 × S0 × S4) => (w_X11_shortest_1 o o_choice o_told o_choice_row o_told_forms o_told_stock o_told_words o_text o_verdict o_trial o_mending o_guess o_firstImage o_secondImage o_spare o_choice_tale o_told_paper cB cI cJ cZ s_o r.2.1 s_o_told r.2.2 s_o_told_forms s_o_told_stock s_o_told_words (.ref (o_told 0)) (.ref (o_spare 0)) (.ref (o_told 0)))) cx hA hr hf rfl rfl dX11_shortest_56
        · refine g_ic cx dX11_shortest_26 k_icm1 ?_
          cases hf
theorem dX11_both_0 : decode cX11_both 0 = .ok (.aload_n 0, 1) := by decide +kernel
theorem dX11_both_1 : decode cX11_both 1 = .ok (.iconst 0, 1) := by decide +kernel
theorem dX11_both_2 : decode cX11_both 2 = .ok (.iload_n 1, 1) := by decide +kernel
theorem dX11_both_3 : decode cX11_both 3 = .ok (.invokevirtual 157, 3) := by decide +kernel
theorem dX11_both_6 : decode cX11_both 6 = .ok (.ifCond .ne 12, 3) := by decide +kernel
theorem dX11_both_9 : decode cX11_both 9 = .ok (.aload_n 0, 1) := by decide +kernel
theorem dX11_both_10 : decode cX11_both 10 = .ok (.iconst 1, 1) := by decide +kernel
theorem dX11_both_11 : decode cX11_both 11 = .ok (.iload_n 1, 1) := by decide +kernel
theorem dX11_both_12 : decode cX11_both 12 = .ok (.invokevirtual 157, 3) := by decide +kernel
theorem dX11_both_15 : decode cX11_both 15 = .ok (.ifCond .eq 5, 3) := by decide +kernel
theorem dX11_both_18 : decode cX11_both 18 = .ok (.iconst (-1), 1) := by decide +kernel
theorem dX11_both_19 : decode cX11_both 19 = .ok (.ireturn, 1) := by decide +kernel
theorem dX11_both_20 : decode cX11_both 20 = .ok (.aload_n 0, 1) := by decide +kernel
theorem dX11_both_21 : decode cX11_both 21 = .ok (.iconst 0, 1) := by decide +kernel
theorem dX11_both_22 : decode cX11_both 22 = .ok (.iload_n 1, 1) := by decide +kernel
theorem dX11_both_23 : decode cX11_both 23 = .ok (.invokevirtual 161, 3) := by decide +kernel
theorem dX11_both_26 : decode cX11_both 26 = .ok (.invokevirtual 180, 3) := by decide +kernel
theorem dX11_both_29 : decode cX11_both 29 = .ok (.ifCond .eq 19, 3) := by decide +kernel
theorem dX11_both_32 : decode cX11_both 32 = .ok (.aload_n 0, 1) := by decide +kernel
theorem dX11_both_33 : decode cX11_both 33 = .ok (.iconst 1, 1) := by decide +kernel
theorem dX11_both_34 : decode cX11_both 34 = .ok (.iload_n 1, 1) := by decide +kernel
theorem dX11_both_35 : decode cX11_both 35 = .ok (.invokevirtual 161, 3) := by decide +kernel
theorem dX11_both_38 : decode cX11_both 38 = .ok (.invokevirtual 180, 3) := by decide +kernel
theorem dX11_both_41 : decode cX11_both 41 = .ok (.ifCond .eq 7, 3) := by decide +kernel
theorem dX11_both_44 : decode cX11_both 44 = .ok (.iconst 1, 1) := by decide +kernel
theorem dX11_both_45 : decode cX11_both 45 = .ok (.goto 4, 3) := by decide +kernel
theorem dX11_both_48 : decode cX11_both 48 = .ok (.iconst 0, 1) := by decide +kernel
theorem dX11_both_49 : decode cX11_both 49 = .ok (.ireturn, 1) := by decide +kernel


def F_X11_both (s_o : S11) (s_o_told : S7) (s_o_verdict : S9) (s_o_told_forms : S1) (s_o_told_paper : S4) (s_o_told_words : S10) (x1 : Int32) : Option (Int32 × S9) := (F_X11_isNoView s_o s_o_told s_o_told_forms 0 x1).bind fun q_1 => (if q_1 = 0 then (F_X11_isNoView s_o s_o_told s_o_told_forms 1 x1).bind fun q_2 => (if q_2 = 0 then (F_X11_view s_o s_o_told s_o_verdict s_o_told_forms s_o_told_paper s_o_told_words 0 x1).bind fun q_3 => (F_X9_isLaw q_3).bind fun q_4 => (if q_4 = 0 then some (0, q_3) else (F_X11_view s_o s_o_told q_3 s_o_told_forms s_o_told_paper s_o_told_words 1 x1).bind fun q_5 => (F_X9_isLaw q_5).bind fun q_6 => (if q_6 = 0 then some (0, q_5) else some (1, q_5))) else some ((-1), s_o_verdict)) else some ((-1), s_o_verdict))
def w_X11_both (o o_told o_verdict o_told_forms o_told_paper o_told_words o_text o_trial o_mending o_guess o_choice o_firstImage o_secondImage o_spare o_told_stock : Nat → Nat) (cB cI cJ cZ : ClassId) (s_o : S11) (s_o_told : S7) (s_o_verdict : S9) (s_o_told_forms : S1) (s_o_told_paper : S4) (s_o_told_words : S10) (rf_o_told : Value) (rf_o_spare : Value) : va_W := List.flatten [(gX11 o cB cI cJ cZ (o_text 0) (o_verdict 0) (o_trial 0) (o_mending 0) (o_guess 0) (o_choice 0) (o_firstImage 0) (o_secondImage 0) rf_o_told rf_o_spare s_o), (gX7 o_told cB cI cJ cZ (o_told_words 0) (o_told_forms 0) (o_told_paper 0) (o_told_stock 0) s_o_told), (gX9 o_verdict cB cI cJ cZ s_o_verdict), (gX1 o_told_forms cB cI cJ cZ s_o_told_forms), (gX4 o_told_paper cB cI cJ cZ s_o_told_paper), (gX10 o_told_words cB cI cJ cZ s_o_told_words)]
abbrev rm_X11_both : Room := { frames := 5, cells := 0, slots := 0, locals := 116 }
set_option maxHeartbeats 4000000 in
set_option maxRecDepth 100000 in
theorem c_X11_both (l : Launch) (D : gG) (cB cI cJ cZ : ClassId) (o o_told o_verdict o_told_forms o_told_paper o_told_words o_text o_trial o_mending o_guess o_choice o_firstImage o_secondImage o_spare o_told_stock : Nat → Nat) (s_o : S11) (s_o_told : S7) (s_o_verdict : S9) (s_o_told_forms : S1) (s_o_told_paper : S4) (s_o_told_words : S10) (x1 : Int32) (r : Int32 × S9) (hf : F_X11_both s_o s_o_told s_o_verdict s_o_told_forms s_o_told_paper s_o_told_words x1 = some r) : gM l D (tyL cB cI cJ cZ) yX11_both cX11_both 2 (some .int) rm_X11_both [.ref (o 0), .int x1] (w_X11_both o o_told o_verdict o_told_forms o_told_paper o_told_words o_text o_trial o_mending o_guess o_choice o_firstImage o_secondImage o_spare o_told_stock cB cI cJ cZ s_o s_o_told s_o_verdict s_o_told_forms s_o_told_paper s_o_told_words (.ref (o_told 0)) (.ref (o_spare 0))) (some (.int r.1)) (w_X11_both o o_told o_verdict o_told_forms o_told_paper o_told_words o_text o_trial o_mending o_guess o_choice o_firstImage o_secondImage o_spare o_told_stock cB cI cJ cZ s_o s_o_told r.2 s_o_told_forms s_o_told_paper s_o_told_words (.ref (o_told 0)) (.ref (o_spare 0))) := by
  refine met_of (by decide) (Nat.le_of_ble_eq_true rfl) ?_
  intro p e s m args below meth c A cx hr hA
  show gW p l e rm_X11_both s m args below meth c D A 2 _ 0 0 _ [(0, .ref (o 0)), (1, .int x1)] 0 []
  rw [F_X11_both] at hf
  refine g_aln cx 0 dX11_both_0 rfl ?_
  refine g_ic cx dX11_both_1 k_ic0 ?_
  refine g_iln cx 1 dX11_both_2 rfl ?_
  refine ob hf (fun q_1 hq_1 hf => ?_)
  refine g_callVGiR cx lk_RX11_157 (c_X11_isNoView l D cB cI cJ cZ o o_told o_told_forms o_text o_verdict o_trial o_mending o_guess o_choice o_firstImage o_secondImage o_spare o_told_words o_told_paper o_told_stock s_o s_o_told s_o_told_forms 0 x1 q_1 hq_1) rfl [0, 1, 3] rfl rfl (ci := 9) (q1 := 0) rfl rfl rfl (Nat.le_of_ble_eq_true rfl) ⟨rfl, rfl, Nat.le_of_ble_eq_true rfl, Nat.le_of_ble_eq_true rfl⟩ dX11_both_3 ?_
  refine g_if_ne (tgt := 18) cx hf dX11_both_6 rfl (fun hf => ?_) (fun hf => ?_)
  · refine g_ic cx dX11_both_18 k_icm1 ?_
    exact g_iret (ovf := fun (r : Int32 × S9) => (some (.int r.1))) (wf := fun (r : Int32 × S9) => (w_X11_both o o_told o_verdict o_told_forms o_told_paper o_told_words o_text o_trial o_mending o_guess o_choice o_firstImage o_secondImage o_spare o_told_stock cB cI cJ cZ s_o s_o_told r.2 s_o_told_forms s_o_told_paper s_o_told_words (.ref (o_told 0)) (.ref (o_spare 0)))) cx hA hr hf rfl rfl dX11_both_19
  · refine g_aln cx 0 dX11_both_9 rfl ?_
    refine g_ic cx dX11_both_10 k_ic1 ?_
    refine g_iln cx 1 dX11_both_11 rfl ?_
    refine ob hf (fun q_2 hq_2 hf => ?_)
    refine g_callVGiR cx lk_RX11_157 (c_X11_isNoView l D cB cI cJ cZ o o_told o_told_forms o_text o_verdict o_trial o_mending o_guess o_choice o_firstImage o_secondImage o_spare o_told_words o_told_paper o_told_stock s_o s_o_told s_o_told_forms 1 x1 q_2 hq_2) rfl [0, 1, 3] rfl rfl (ci := 9) (q1 := 0) rfl rfl rfl (Nat.le_of_ble_eq_true rfl) ⟨rfl, rfl, Nat.le_of_ble_eq_true rfl, Nat.le_of_ble_eq_true rfl⟩ dX11_both_12 ?_
    refine g_if_eq (tgt := 20) cx hf dX11_both_15 rfl (fun hf => ?_) (fun hf => ?_)
    · refine g_aln cx 0 dX11_both_20 rfl ?_
      refine g_ic cx dX11_both_21 k_ic0 ?_
      refine g_iln cx 1 dX11_both_22 rfl ?_
      refine ob hf (fun q_3 hq_3 hf => ?_)
      refine g_callVGr (gs' := [(gX11 o cB cI cJ cZ (o_text 0) (o_verdict 0) (o_trial 0) (o_mending 0) (o_guess 0) (o_choice 0) (o_firstImage 0) (o_secondImage 0) (.ref (o_told 0)) (.ref (o_spare 0)) s_o), (gX7 o_told cB cI cJ cZ (o_told_words 0) (o_told_forms 0) (o_told_paper 0) (o_told_stock 0) s_o_told), (gX9 o_verdict cB cI cJ cZ q_3), (gX1 o_told_forms cB cI cJ cZ s_o_told_forms), (gX4 o_told_paper cB cI cJ cZ s_o_told_paper), (gX10 o_told_words cB cI cJ cZ s_o_told_words)]) cx lk_RX11_161 (c_X11_view l D cB cI cJ cZ o o_told o_verdict o_told_forms o_told_paper o_told_words o_text o_trial o_mending o_guess o_choice o_firstImage o_secondImage o_spare o_told_stock s_o s_o_told s_o_verdict s_o_told_forms s_o_told_paper s_o_told_words 0 x1 q_3 hq_3) rfl [0, 1, 2, 3, 4, 5] rfl rfl rfl rfl (ci := 9) (q1 := 0) rfl rfl rfl (Nat.le_of_ble_eq_true rfl) ⟨rfl, rfl, Nat.le_of_ble_eq_true rfl, Nat.le_of_ble_eq_true rfl⟩ dX11_both_23 ?_
      refine ob hf (fun q_4 hq_4 hf => ?_)
      refine g_callVGiR cx lk_RX11_180 (c_X9_isLaw l D cB cI cJ cZ o_verdict q_3 q_4 hq_4) rfl [2] rfl rfl (ci := 7) (q1 := 0) rfl rfl rfl (Nat.le_of_ble_eq_true rfl) ⟨rfl, rfl, Nat.le_of_ble_eq_true rfl, Nat.le_of_ble_eq_true rfl⟩ dX11_both_26 ?_
      refine g_if_eq (tgt := 48) cx hf dX11_both_29 rfl (fun hf => ?_) (fun hf => ?_)
      · refine g_ic cx dX11_both_48 k_ic0 ?_
        exact g_iret (ovf := fun (r : Int32 × S9) => (some (.int r.1))) (wf := fun (r : Int32 × S9) => (w_X11_both o o_told o_verdict o_told_forms o_told_paper o_told_words o_text o_trial o_mending o_guess o_choice o_firstImage o_secondImage o_spare o_told_stock cB cI cJ cZ s_o s_o_told r.2 s_o_told_forms s_o_told_paper s_o_told_words (.ref (o_told 0)) (.ref (o_spare 0)))) cx hA hr hf rfl rfl dX11_both_49
      · refine g_aln cx 0 dX11_both_32 rfl ?_
        refine g_ic cx dX11_both_33 k_ic1 ?_
        refine g_iln cx 1 dX11_both_34 rfl ?_
        refine ob hf (fun q_5 hq_5 hf => ?_)
        refine g_callVGr (gs' := [(gX11 o cB cI cJ cZ (o_text 0) (o_verdict 0) (o_trial 0) (o_mending 0) (o_guess 0) (o_choice 0) (o_firstImage 0) (o_secondImage 0) (.ref (o_told 0)) (.ref (o_spare 0)) s_o), (gX7 o_told cB cI cJ cZ (o_told_words 0) (o_told_forms 0) (o_told_paper 0) (o_told_stock 0) s_o_told), (gX9 o_verdict cB cI cJ cZ q_5), (gX1 o_told_forms cB cI cJ cZ s_o_told_forms), (gX4 o_told_paper cB cI cJ cZ s_o_told_paper), (gX10 o_told_words cB cI cJ cZ s_o_told_words)]) cx lk_RX11_161 (c_X11_view l D cB cI cJ cZ o o_told o_verdict o_told_forms o_told_paper o_told_words o_text o_trial o_mending o_guess o_choice o_firstImage o_secondImage o_spare o_told_stock s_o s_o_told q_3 s_o_told_forms s_o_told_paper s_o_told_words 1 x1 q_5 hq_5) rfl [0, 1, 2, 3, 4, 5] rfl rfl rfl rfl (ci := 9) (q1 := 0) rfl rfl rfl (Nat.le_of_ble_eq_true rfl) ⟨rfl, rfl, Nat.le_of_ble_eq_true rfl, Nat.le_of_ble_eq_true rfl⟩ dX11_both_35 ?_
        refine ob hf (fun q_6 hq_6 hf => ?_)
        refine g_callVGiR cx lk_RX11_180 (c_X9_isLaw l D cB cI cJ cZ o_verdict q_5 q_6 hq_6) rfl [2] rfl rfl (ci := 7) (q1 := 0) rfl rfl rfl (Nat.le_of_ble_eq_true rfl) ⟨rfl, rfl, Nat.le_of_ble_eq_true rfl, Nat.le_of_ble_eq_true rfl⟩ dX11_both_38 ?_
        refine g_if_eq (tgt := 48) cx hf dX11_both_41 rfl (fun hf => ?_) (fun hf => ?_)
        · refine g_ic cx dX11_both_48 k_ic0 ?_
          exact g_iret (ovf := fun (r : Int32 × S9) => (some (.int r.1))) (wf := fun (r : Int32 × S9) => (w_X11_both o o_told o_verdict o_told_forms o_told_paper o_told_words o_text o_trial o_mending o_guess o_choice o_firstImage o_secondImage o_spare o_told_stock cB cI cJ cZ s_o s_o_told r.2 s_o_told_forms s_o_told_paper s_o_told_words (.ref (o_told 0)) (.ref (o_spare 0)))) cx hA hr hf rfl rfl dX11_both_49
        · refine g_ic cx dX11_both_44 k_ic1 ?_
          refine g_goto (tgt := 49) cx dX11_both_45 rfl ?_
          exact g_iret (ovf := fun (r : Int32 × S9) => (some (.int r.1))) (wf := fun (r : Int32 × S9) => (w_X11_both o o_told o_verdict o_told_forms o_told_paper o_told_words o_text o_trial o_mending o_guess o_choice o_firstImage o_secondImage o_spare o_told_stock cB cI cJ cZ s_o s_o_told r.2 s_o_told_forms s_o_told_paper s_o_told_words (.ref (o_told 0)) (.ref (o_spare 0)))) cx hA hr hf rfl rfl dX11_both_49
    · refine g_ic cx dX11_both_18 k_icm1 ?_
      exact g_iret (ovf := fun (r : Int32 × S9) => (some (.int r.1))) (wf := fun (r : Int32 × S9) => (w_X11_both o o_told o_verdict o_told_forms o_told_paper o_told_words o_text o_trial o_mending o_guess o_choice o_firstImage o_secondImage o_spare o_told_stock cB cI cJ cZ s_o s_o_told r.2 s_o_told_forms s_o_told_paper s_o_told_words (.ref (o_told 0)) (.ref (o_spare 0)))) cx hA hr hf rfl rfl dX11_both_19
theorem dX11_isMixedLaw_0 : decode cX11_isMixedLaw 0 = .ok (.aload_n 0, 1) := by decide +kernel
theorem dX11_isMixedLaw_1 : decode cX11_isMixedLaw 1 = .ok (.getfield 62, 3) := by decide +kernel
theorem dX11_isMixedLaw_4 : decode cX11_isMixedLaw 4 = .ok (.getfield 89, 3) := by decide +kernel
theorem dX11_isMixedLaw_7 : decode cX11_isMixedLaw 7 = .ok (.iload_n 2, 1) := by decide +kernel
theorem dX11_isMixedLaw_8 : decode cX11_isMixedLaw 8 = .ok (.invokevirtual 264, 3) := by decide +kernel
theorem dX11_isMixedLaw_11 : decode cX11_isMixedLaw 11 = .ok (.aload_n 0, 1) := by decide +kernel
theorem dX11_isMixedLaw_12 : decode cX11_isMixedLaw 12 = .ok (.iload_n 1, 1) := by decide +kernel
theorem dX11_isMixedLaw_13 : decode cX11_isMixedLaw 13 = .ok (.iconst 2, 1) := by decide +kernel
theorem dX11_isMixedLaw_14 : decode cX11_isMixedLaw 14 = .ok (.invokevirtual 161, 3) := by decide +kernel
theorem dX11_isMixedLaw_17 : decode cX11_isMixedLaw 17 = .ok (.invokevirtual 180, 3) := by decide +kernel
theorem dX11_isMixedLaw_20 : decode cX11_isMixedLaw 20 = .ok (.ireturn, 1) := by decide +kernel
theorem q4_94 : Cond.methodLink RX11 264 yX10_mix ∈ TT := tq4 94 rfl rfl
theorem q4_95 : Cond.instanceMethod yX10_mix ∈ TT := tq4 95 rfl rfl
theorem q4_96 : Cond.selects RX10 yX10_mix yX10_mix ∈ TT := tq4 96 rfl rfl
theorem q4_97 : Cond.code yX10_mix cX10_mix 3 none ∈ TT := tq4 97 rfl rfl
theorem lk_RX11_264 : vlk RX11 264 yX10_mix cX10_mix 3 none 1 := ⟨List.forall_mem_cons.mpr ⟨q4_94, List.forall_mem_cons.mpr ⟨q4_95, List.forall_mem_cons.mpr ⟨q4_96, List.forall_mem_cons.mpr ⟨q1_10, fun _ h => absurd h List.not_mem_nil⟩⟩⟩⟩, q4_97, by decide, by decide, by decide +kernel⟩
def F_X11_isMixedLaw (s_o : S11) (s_o_told : S7) (s_o_verdict : S9) (s_o_told_forms : S1) (s_o_told_paper : S4) (s_o_told_words : S10) (x1 : Int32) (x2 : Int32) : Option (Int32 × S9 × S10) := (F_X10_mix s_o_told_words x2).bind fun q_1 => (F_X11_view s_o s_o_told s_o_verdict s_o_told_forms s_o_told_paper q_1 x1 2).bind fun q_2 => (F_X9_isLaw q_2).bind fun q_3 => (zb q_3).bind fun z_4 => some (q_3, q_2, q_1)
def w_X11_isMixedLaw (o o_told o_verdict o_told_forms o_told_paper o_told_words o_text o_trial o_mending o_guess o_choice o_firstImage o_secondImage o_spare o_told_stock : Nat → Nat) (cB cI cJ cZ : ClassId) (s_o : S11) (s_o_told : S7) (s_o_verdict : S9) (s_o_told_forms : S1) (s_o_told_paper : S4) (s_o_told_words : S10) (rf_o_told : Value) (rf_o_spare : Value) : va_W := List.flatten [(gX11 o cB cI cJ cZ (o_text 0) (o_verdict 0) (o_trial 0) (o_mending 0) (o_guess 0) (o_choice 0) (o_firstImage 0) (o_secondImage 0) rf_o_told rf_o_spare s_o), (gX7 o_told cB cI cJ cZ (o_told_words 0) (o_told_forms 0) (o_told_paper 0) (o_told_stock 0) s_o_told), (gX9 o_verdict cB cI cJ cZ s_o_verdict), (gX1 o_told_forms cB cI cJ cZ s_o_told_forms), (gX4 o_told_paper cB cI cJ cZ s_o_told_paper), (gX10 o_told_words cB cI cJ cZ s_o_told_words)]
abbrev rm_X11_isMixedLaw : Room := { frames := 5, cells := 0, slots := 0, locals := 116 }
set_option maxHeartbeats 4000000 in
set_option maxRecDepth 100000 in
theorem c_X11_isMixedLaw (l : Launch) (D : gG) (cB cI cJ cZ : ClassId) (o o_told o_verdict o_told_forms o_told_paper o_told_words o_text o_trial o_mending o_guess o_choice o_firstImage o_secondImage o_spare o_told_stock : Nat → Nat) (s_o : S11) (s_o_told : S7) (s_o_verdict : S9) (s_o_told_forms : S1) (s_o_told_paper : S4) (s_o_told_words : S10) (x1 : Int32) (x2 : Int32) (r : Int32 × S9 × S10) (hf : F_X11_isMixedLaw s_o s_o_told s_o_verdict s_o_told_forms s_o_told_paper s_o_told_words x1 x2 = some r) : gM l D (tyL cB cI cJ cZ) yX11_isMixedLaw cX11_isMixedLaw 3 (some .boolean) rm_X11_isMixedLaw [.ref (o 0), .int x1, .int x2] (w_X11_isMixedLaw o o_told o_verdict o_told_forms o_told_paper o_told_words o_text o_trial o_mending o_guess o_choice o_firstImage o_secondImage o_spare o_told_stock cB cI cJ cZ s_o s_o_told s_o_verdict s_o_told_forms s_o_told_paper s_o_told_words (.ref (o_told 0)) (.ref (o_spare 0))) (some (.int r.1)) (w_X11_isMixedLaw o o_told o_verdict o_told_forms o_told_paper o_told_words o_text o_trial o_mending o_guess o_choice o_firstImage o_secondImage o_spare o_told_stock cB cI cJ cZ s_o s_o_told r.2.1 s_o_told_forms s_o_told_paper r.2.2 (.ref (o_told 0)) (.ref (o_spare 0))) := by
  refine met_of (by decide) (Nat.le_of_ble_eq_true rfl) ?_
  intro p e s m args below meth c A cx hr hA
  show gW p l e rm_X11_isMixedLaw s m args below meth c D A 3 _ 0 0 _ [(0, .ref (o 0)), (1, .int x1), (2, .int x2)] 0 []
  rw [F_X11_isMixedLaw] at hf
  refine g_aln cx 0 dX11_isMixedLaw_0 rfl ?_
  refine fg_RX11_62 cx 0 rfl rfl dX11_isMixedLaw_1 ?_
  refine fg_RX11_89 cx 1 rfl rfl dX11_isMixedLaw_4 ?_
  refine g_iln cx 2 dX11_isMixedLaw_7 rfl ?_
  refine ob hf (fun q_1 hq_1 hf => ?_)
  refine g_callVGv (gs' := [(gX11 o cB cI cJ cZ (o_text 0) (o_verdict 0) (o_trial 0) (o_mending 0) (o_guess 0) (o_choice 0) (o_firstImage 0) (o_secondImage 0) (.ref (o_told 0)) (.ref (o_spare 0)) s_o), (gX7 o_told cB cI cJ cZ (o_told_words 0) (o_told_forms 0) (o_told_paper 0) (o_told_stock 0) s_o_told), (gX9 o_verdict cB cI cJ cZ s_o_verdict), (gX1 o_told_forms cB cI cJ cZ s_o_told_forms), (gX4 o_told_paper cB cI cJ cZ s_o_told_paper), (gX10 o_told_words cB cI cJ cZ q_1)]) cx lk_RX11_264 (c_X10_mix l D cB cI cJ cZ o_told_words s_o_told_words x2 q_1 hq_1) rfl [5] rfl rfl rfl rfl (ci := 8) (q1 := 0) rfl rfl rfl (Nat.le_of_ble_eq_true rfl) ⟨rfl, rfl, Nat.le_of_ble_eq_true rfl, Nat.le_of_ble_eq_true rfl⟩ dX11_isMixedLaw_8 ?_
  refine g_aln cx 0 dX11_isMixedLaw_11 rfl ?_
  refine g_iln cx 1 dX11_isMixedLaw_12 rfl ?_
  refine g_ic cx dX11_isMixedLaw_13 k_ic2 ?_
  refine ob hf (fun q_2 hq_2 hf => ?_)
  refine g_callVGr (gs' := [(gX11 o cB cI cJ cZ (o_text 0) (o_verdict 0) (o_trial 0) (o_mending 0) (o_guess 0) (o_choice 0) (o_firstImage 0) (o_secondImage 0) (.ref (o_told 0)) (.ref (o_spare 0)) s_o), (gX7 o_told cB cI cJ cZ (o_told_words 0) (o_told_forms 0) (o_told_paper 0) (o_told_stock 0) s_o_told), (gX9 o_verdict cB cI cJ cZ q_2), (gX1 o_told_forms cB cI cJ cZ s_o_told_forms), (gX4 o_told_paper cB cI cJ cZ s_o_told_paper), (gX10 o_told_words cB cI cJ cZ q_1)]) cx lk_RX11_161 (c_X11_view l D cB cI cJ cZ o o_told o_verdict o_told_forms o_told_paper o_told_words o_text o_trial o_mending o_guess o_choice o_firstImage o_secondImage o_spare o_told_stock s_o s_o_told s_o_verdict s_o_told_forms s_o_told_paper q_1 x1 2 q_2 hq_2) rfl [0, 1, 2, 3, 4, 5] rfl rfl rfl rfl (ci := 9) (q1 := 0) rfl rfl rfl (Nat.le_of_ble_eq_true rfl) ⟨rfl, rfl, Nat.le_of_ble_eq_true rfl, Nat.le_of_ble_eq_true rfl⟩ dX11_isMixedLaw_14 ?_
  refine ob hf (fun q_3 hq_3 hf => ?_)
  refine g_callVGiR cx lk_RX11_180 (c_X9_isLaw l D cB cI cJ cZ o_verdict q_2 q_3 hq_3) rfl [2] rfl rfl (ci := 7) (q1 := 0) rfl rfl rfl (Nat.le_of_ble_eq_true rfl) ⟨rfl, rfl, Nat.le_of_ble_eq_true rfl, Nat.le_of_ble_eq_true rfl⟩ dX11_isMixedLaw_17 ?_
  refine ob hf (fun z_4 hz hf => ?_)
  exact g_zret (ovf := fun (r : Int32 × S9 × S10) => (some (.int r.1))) (wf := fun (r : Int32 × S9 × S10) => (w_X11_isMixedLaw o o_told o_verdict o_told_forms o_told_paper o_told_words o_text o_trial o_mending o_guess o_choice o_firstImage o_secondImage o_spare o_told_stock cB cI cJ cZ s_o s_o_told r.2.1 s_o_told_forms s_o_told_paper r.2.2 (.ref (o_told 0)) (.ref (o_spare 0)))) cx hA hr (zb_some hz).2 hf rfl rfl dX11_isMixedLaw_20
theorem dX11_parting_0 : decode cX11_parting 0 = .ok (.aload_n 0, 1) := by decide +kernel
theorem dX11_parting_1 : decode cX11_parting 1 = .ok (.getfield 62, 3) := by decide +kernel
theorem dX11_parting_4 : decode cX11_parting 4 = .ok (.getfield 110, 3) := by decide +kernel
theorem dX11_parting_7 : decode cX11_parting 7 = .ok (.iload_n 1, 1) := by decide +kernel
theorem dX11_parting_8 : decode cX11_parting 8 = .ok (.invokevirtual 114, 3) := by decide +kernel
theorem dX11_parting_11 : decode cX11_parting 11 = .ok (.ifCond .ne 5, 3) := by decide +kernel
theorem dX11_parting_14 : decode cX11_parting 14 = .ok (.iconst (-1), 1) := by decide +kernel
theorem dX11_parting_15 : decode cX11_parting 15 = .ok (.ireturn, 1) := by decide +kernel
theorem dX11_parting_16 : decode cX11_parting 16 = .ok (.aload_n 0, 1) := by decide +kernel
theorem dX11_parting_17 : decode cX11_parting 17 = .ok (.iload_n 1, 1) := by decide +kernel
theorem dX11_parting_18 : decode cX11_parting 18 = .ok (.iconst 0, 1) := by decide +kernel
theorem dX11_parting_19 : decode cX11_parting 19 = .ok (.invokevirtual 161, 3) := by decide +kernel
theorem dX11_parting_22 : decode cX11_parting 22 = .ok (.invokevirtual 180, 3) := by decide +kernel
theorem dX11_parting_25 : decode cX11_parting 25 = .ok (.ifCond .eq 15, 3) := by decide +kernel
theorem dX11_parting_28 : decode cX11_parting 28 = .ok (.aload_n 0, 1) := by decide +kernel
theorem dX11_parting_29 : decode cX11_parting 29 = .ok (.iload_n 1, 1) := by decide +kernel
theorem dX11_parting_30 : decode cX11_parting 30 = .ok (.iconst 1, 1) := by decide +kernel
theorem dX11_parting_31 : decode cX11_parting 31 = .ok (.invokevirtual 161, 3) := by decide +kernel
theorem dX11_parting_34 : decode cX11_parting 34 = .ok (.invokevirtual 180, 3) := by decide +kernel
theorem dX11_parting_37 : decode cX11_parting 37 = .ok (.ifCond .eq 6, 3) := by decide +kernel
theorem dX11_parting_40 : decode cX11_parting 40 = .ok (.bipush (-9), 2) := by decide +kernel
theorem dX11_parting_42 : decode cX11_parting 42 = .ok (.ireturn, 1) := by decide +kernel
theorem dX11_parting_43 : decode cX11_parting 43 = .ok (.iconst 0, 1) := by decide +kernel
theorem dX11_parting_44 : decode cX11_parting 44 = .ok (.istore_n 2, 1) := by decide +kernel
theorem dX11_parting_45 : decode cX11_parting 45 = .ok (.iload_n 2, 1) := by decide +kernel
theorem dX11_parting_46 : decode cX11_parting 46 = .ok (.aload_n 0, 1) := by decide +kernel
theorem dX11_parting_47 : decode cX11_parting 47 = .ok (.getfield 62, 3) := by decide +kernel
theorem dX11_parting_50 : decode cX11_parting 50 = .ok (.getfield 89, 3) := by decide +kernel
theorem dX11_parting_53 : decode cX11_parting 53 = .ok (.invokevirtual 211, 3) := by decide +kernel
theorem dX11_parting_56 : decode cX11_parting 56 = .ok (.if_icmp .ge 20, 3) := by decide +kernel
theorem dX11_parting_59 : decode cX11_parting 59 = .ok (.aload_n 0, 1) := by decide +kernel
theorem dX11_parting_60 : decode cX11_parting 60 = .ok (.iload_n 1, 1) := by decide +kernel
theorem dX11_parting_61 : decode cX11_parting 61 = .ok (.iload_n 2, 1) := by decide +kernel
theorem dX11_parting_62 : decode cX11_parting 62 = .ok (.invokevirtual 212, 3) := by decide +kernel
theorem dX11_parting_65 : decode cX11_parting 65 = .ok (.ifCond .eq 5, 3) := by decide +kernel
theorem dX11_parting_68 : decode cX11_parting 68 = .ok (.iload_n 2, 1) := by decide +kernel
theorem dX11_parting_69 : decode cX11_parting 69 = .ok (.ireturn, 1) := by decide +kernel
theorem dX11_parting_70 : decode cX11_parting 70 = .ok (.iinc 2 1, 3) := by decide +kernel
theorem dX11_parting_73 : decode cX11_parting 73 = .ok (.goto (-28), 3) := by decide +kernel
theorem dX11_parting_76 : decode cX11_parting 76 = .ok (.bipush (-9), 2) := by decide +kernel
theorem dX11_parting_78 : decode cX11_parting 78 = .ok (.ireturn, 1) := by decide +kernel
theorem q0_13 : Cond.selects RX11 yX11_isMixedLaw yX11_isMixedLaw ∈ TT := tq0 13 rfl rfl
theorem q4_89 : Cond.methodLink RX11 211 yX10_size ∈ TT := tq4 89 rfl rfl
theorem q4_90 : Cond.methodLink RX11 212 yX11_isMixedLaw ∈ TT := tq4 90 rfl rfl
theorem q4_92 : Cond.instanceMethod yX11_isMixedLaw ∈ TT := tq4 92 rfl rfl
theorem q4_93 : Cond.code yX11_isMixedLaw cX11_isMixedLaw 3 (some .boolean) ∈ TT := tq4 93 rfl rfl
theorem lk_RX11_211 : vlk RX11 211 yX10_size cX10_size 1 (some .int) 0 := ⟨List.forall_mem_cons.mpr ⟨q4_89, List.forall_mem_cons.mpr ⟨q2_227, List.forall_mem_cons.mpr ⟨q2_228, List.forall_mem_cons.mpr ⟨q1_10, fun _ h => absurd h List.not_mem_nil⟩⟩⟩⟩, q2_229, by decide, by decide, by decide +kernel⟩
theorem lk_RX11_212 : vlk RX11 212 yX11_isMixedLaw cX11_isMixedLaw 3 (some .boolean) 2 := ⟨List.forall_mem_cons.mpr ⟨q4_90, List.forall_mem_cons.mpr ⟨q4_92, List.forall_mem_cons.mpr ⟨q0_13, List.forall_mem_cons.mpr ⟨q1_1, fun _ h => absurd h List.not_mem_nil⟩⟩⟩⟩, q4_93, by decide, by decide, by decide +kernel⟩
def F_X11_parting_b45 (s_o : S11) (s_o_told : S7) (s_o_told_forms : S1) (s_o_told_paper : S4) (x1 : Int32) : Nat → Int32 → S9 → S10 → Option (Int32 × S9 × S10)
  | 0, _, _, _ => none
  | n + 1, v2, zs_o_verdict, zs_o_told_words => (F_X10_size zs_o_told_words).bind fun q_1 => (if q_1 ≤ v2 then some ((-9), zs_o_verdict, zs_o_told_words) else (F_X11_isMixedLaw s_o s_o_told zs_o_verdict s_o_told_forms s_o_told_paper zs_o_told_words x1 v2).bind fun q_2 => (if q_2.1 = 0 then nm (v2 + 1) fun v2_3 => (F_X11_parting_b45 s_o s_o_told s_o_told_forms s_o_told_paper x1 n) v2_3 q_2.2.1 q_2.2.2 else some (v2, q_2.2.1, q_2.2.2)))
def F_X11_parting (s_o : S11) (s_o_told : S7) (s_o_verdict : S9) (s_o_told_forms : S1) (s_o_told_paper : S4) (s_o_told_words : S10) (x1 : Int32) : Option (Int32 × S9 × S10) := (F_X1_has s_o_told_forms x1).bind fun q_4 => (if q_4 = 0 then some ((-1), s_o_verdict, s_o_told_words) else (F_X11_view s_o s_o_told s_o_verdict s_o_told_forms s_o_told_paper s_o_told_words x1 0).bind fun q_5 => (F_X9_isLaw q_5).bind fun q_6 => (if q_6 = 0 then some ((-9), q_5, s_o_told_words) else (F_X11_view s_o s_o_told q_5 s_o_told_forms s_o_told_paper s_o_told_words x1 1).bind fun q_7 => (F_X9_isLaw q_7).bind fun q_8 => (if q_8 = 0 then nm 0 fun v2_9 => F_X11_parting_b45 s_o s_o_told s_o_told_forms s_o_told_paper x1 fu v2_9 q_7 s_o_told_words else some ((-9), q_7, s_o_told_words))))
def w_X11_parting (o o_told o_verdict o_told_forms o_told_paper o_told_words o_text o_trial o_mending o_guess o_choice o_firstImage o_secondImage o_spare o_told_stock : Nat → Nat) (cB cI cJ cZ : ClassId) (s_o : S11) (s_o_told : S7) (s_o_verdict : S9) (s_o_told_forms : S1) (s_o_told_paper : S4) (s_o_told_words : S10) (rf_o_told : Value) (rf_o_spare : Value) : va_W := List.flatten [(gX11 o cB cI cJ cZ (o_text 0) (o_verdict 0) (o_trial 0) (o_mending 0) (o_guess 0) (o_choice 0) (o_firstImage 0) (o_secondImage 0) rf_o_told rf_o_spare s_o), (gX7 o_told cB cI cJ cZ (o_told_words 0) (o_told_forms 0) (o_told_paper 0) (o_told_stock 0) s_o_told), (gX9 o_verdict cB cI cJ cZ s_o_verdict), (gX1 o_told_forms cB cI cJ cZ s_o_told_forms), (gX4 o_told_paper cB cI cJ cZ s_o_told_paper), (gX10 o_told_words cB cI cJ cZ s_o_told_words)]
abbrev rm_X11_parting : Room := { frames := 6, cells := 0, slots := 0, locals := 138 }
set_option maxHeartbeats 4000000 in
set_option maxRecDepth 100000 in
theorem c_X11_parting (l : Launch) (D : gG) (cB cI cJ cZ : ClassId) (o o_told o_verdict o_told_forms o_told_paper o_told_words o_text o_trial o_mending o_guess o_choice o_firstImage o_secondImage o_spare o_told_stock : Nat → Nat) (s_o : S11) (s_o_told : S7) (s_o_verdict : S9) (s_o_told_forms : S1) (s_o_told_paper : S4) (s_o_told_words : S10) (x1 : Int32) (r : Int32 × S9 × S10) (hf : F_X11_parting s_o s_o_told s_o_verdict s_o_told_forms s_o_told_paper s_o_told_words x1 = some r) : gM l D (tyL cB cI cJ cZ) yX11_parting cX11_parting 3 (some .int) rm_X11_parting [.ref (o 0), .int x1] (w_X11_parting o o_told o_verdict o_told_forms o_told_paper o_told_words o_text o_trial o_mending o_guess o_choice o_firstImage o_secondImage o_spare o_told_stock cB cI cJ cZ s_o s_o_told s_o_verdict s_o_told_forms s_o_told_paper s_o_told_words (.ref (o_told 0)) (.ref (o_spare 0))) (some (.int r.1)) (w_X11_parting o o_told o_verdict o_told_forms o_told_paper o_told_words o_text o_trial o_mending o_guess o_choice o_firstImage o_secondImage o_spare o_told_stock cB cI cJ cZ s_o s_o_told r.2.1 s_o_told_forms s_o_told_paper r.2.2 (.ref (o_told 0)) (.ref (o_spare 0))) := by
  refine met_of (by decide) (Nat.le_of_ble_eq_true rfl) ?_
  intro p e s m args below meth c A cx hr hA
  show gW p l e rm_X11_parting s m args below meth c D A 3 _ 0 0 _ [(0, .ref (o 0)), (1, .int x1)] 0 []
  have h45 : ∀ (n : Nat) (v2 : Int32) (zs_o_verdict : S9) (zs_o_told_words : S10), F_X11_parting_b45 s_o s_o_told s_o_told_forms s_o_told_paper x1 n v2 zs_o_verdict zs_o_told_words = some r → gW p l e rm_X11_parting s m args below meth c D A 3 (MQ below (QM D (tyL cB cI cJ cZ) (some (.int r.1)) (w_X11_parting o o_told o_verdict o_told_forms o_told_paper o_told_words o_text o_trial o_mending o_guess o_choice o_firstImage o_secondImage o_spare o_told_stock cB cI cJ cZ s_o s_o_told s_o_verdict s_o_told_forms s_o_told_paper s_o_told_words (.ref (o_told 0)) (.ref (o_spare 0))) (w_X11_parting o o_told o_verdict o_told_forms o_told_paper o_told_words o_text o_trial o_mending o_guess o_choice o_firstImage o_secondImage o_spare o_told_stock cB cI cJ cZ s_o s_o_told r.2.1 s_o_told_forms s_o_told_paper r.2.2 (.ref (o_told 0)) (.ref (o_spare 0))) s.heap.size) args s 0 0 A) 0 0 (w_X11_parting o o_told o_verdict o_told_forms o_told_paper o_told_words o_text o_trial o_mending o_guess o_choice o_firstImage o_secondImage o_spare o_told_stock cB cI cJ cZ s_o s_o_told zs_o_verdict s_o_told_forms s_o_told_paper zs_o_told_words (.ref (o_told 0)) (.ref (o_spare 0))) [(0, .ref (o 0)), (1, .int x1), (2, .int v2)] 45 [] := by
    intro n
    induction n with
    | zero => intro v2 zs_o_verdict zs_o_told_words hf; rw [F_X11_parting_b45] at hf; cases hf
    | succ n ih =>
      intro v2 zs_o_verdict zs_o_told_words hf
      rw [F_X11_parting_b45] at hf
      refine g_iln cx 2 dX11_parting_45 rfl ?_
      refine g_aln cx 0 dX11_parting_46 rfl ?_
      refine fg_RX11_62 cx 0 rfl rfl dX11_parting_47 ?_
      refine fg_RX11_89 cx 1 rfl rfl dX11_parting_50 ?_
      refine ob hf (fun q_1 hq_1 hf => ?_)
      refine g_callVGiR cx lk_RX11_211 (c_X10_size l D cB cI cJ cZ o_told_words zs_o_told_words q_1 hq_1) rfl [5] rfl rfl (ci := 8) (q1 := 0) rfl rfl rfl (Nat.le_of_ble_eq_true rfl) ⟨rfl, rfl, Nat.le_of_ble_eq_true rfl, Nat.le_of_ble_eq_true rfl⟩ dX11_parting_53 ?_
      refine g_ic_ge (tgt := 76) cx hf dX11_parting_56 rfl (fun hf => ?_) (fun hf => ?_)
      · refine g_bp cx dX11_parting_76 k_bpm9 ?_
        exact g_iret (ovf := fun (r : Int32 × S9 × S10) => (some (.int r.1))) (wf := fun (r : Int32 × S9 × S10) => (w_X11_parting o o_told o_verdict o_told_forms o_told_paper o_told_words o_text o_trial o_mending o_guess o_choice o_firstImage o_secondImage o_spare o_told_stock cB cI cJ cZ s_o s_o_told r.2.1 s_o_told_forms s_o_told_paper r.2.2 (.ref (o_told 0)) (.ref (o_spare 0)))) cx hA hr hf rfl rfl dX11_parting_78
      · refine g_aln cx 0 dX11_parting_59 rfl ?_
        refine g_iln cx 1 dX11_parting_60 rfl ?_
        refine g_iln cx 2 dX11_parting_61 rfl ?_
        refine ob hf (fun q_2 hq_2 hf => ?_)
        refine g_callVGi (gs' := [(gX11 o cB cI cJ cZ (o_text 0) (o_verdict 0) (o_trial 0) (o_mending 0) (o_guess 0) (o_choice 0) (o_firstImage 0) (o_secondImage 0) (.ref (o_told 0)) (.ref (o_spare 0)) s_o), (gX7 o_told cB cI cJ cZ (o_told_words 0) (o_told_forms 0) (o_told_paper 0) (o_told_stock 0) s_o_told), (gX9 o_verdict cB cI cJ cZ q_2.2.1), (gX1 o_told_forms cB cI cJ cZ s_o_told_forms), (gX4 o_told_paper cB cI cJ cZ s_o_told_paper), (gX10 o_told_words cB cI cJ cZ q_2.2.2)]) cx lk_RX11_212 (c_X11_isMixedLaw l D cB cI cJ cZ o o_told o_verdict o_told_forms o_told_paper o_told_words o_text o_trial o_mending o_guess o_choice o_firstImage o_secondImage o_spare o_told_stock s_o s_o_told zs_o_verdict s_o_told_forms s_o_told_paper zs_o_told_words x1 v2 q_2 hq_2) rfl [0, 1, 2, 3, 4, 5] rfl rfl rfl rfl (ci := 9) (q1 := 0) rfl rfl rfl (Nat.le_of_ble_eq_true rfl) ⟨rfl, rfl, Nat.le_of_ble_eq_true rfl, Nat.le_of_ble_eq_true rfl⟩ dX11_parting_62 ?_
        refine g_if_eq (tgt := 70) cx hf dX11_parting_65 rfl (fun hf => ?_) (fun hf => ?_)
        · refine g_inc cx (L2 := fun v2_3 => [(2, .int v2_3), (0, .ref (o 0)), (1, .int x1)]) 2 hf dX11_parting_70 rfl (k_inc1 _) (Nat.le_of_ble_eq_true rfl) (fun _ => rfl) (fun v2_3 hf => ?_)
          refine g_goto (tgt := 45) cx dX11_parting_73 rfl ?_
          refine g_sub [1, 2, 0] rfl ?_
          exact ih _ _ _ hf
        · refine g_iln cx 2 dX11_parting_68 rfl ?_
          exact g_iret (ovf := fun (r : Int32 × S9 × S10) => (some (.int r.1))) (wf := fun (r : Int32 × S9 × S10) => (w_X11_parting o o_told o_verdict o_told_forms o_told_paper o_told_words o_text o_trial o_mending o_guess o_choice o_firstImage o_secondImage o_spare o_told_stock cB cI cJ cZ s_o s_o_told r.2.1 s_o_told_forms s_o_told_paper r.2.2 (.ref (o_told 0)) (.ref (o_spare 0)))) cx hA hr hf rfl rfl dX11_parting_69
  rw [F_X11_parting] at hf
  refine g_aln cx 0 dX11_parting_0 rfl ?_
  refine fg_RX11_62 cx 0 rfl rfl dX11_parting_1 ?_
  refine fg_RX11_110 cx 1 rfl rfl dX11_parting_4 ?_
  refine g_iln cx 1 dX11_parting_7 rfl ?_
  refine ob hf (fun q_4 hq_4 hf => ?_)
  refine g_callVGiR cx lk_RX11_114 (c_X1_has l D cB cI cJ cZ o_told_forms s_o_told_forms x1 q_4 hq_4) rfl [3] rfl rfl (ci := 1) (q1 := 0) rfl rfl rfl (Nat.le_of_ble_eq_true rfl) ⟨rfl, rfl, Nat.le_of_ble_eq_true rfl, Nat.le_of_ble_eq_true rfl⟩ dX11_parting_8 ?_
  refine g_if_ne (tgt := 16) cx hf dX11_parting_11 rfl (fun hf => ?_) (fun hf => ?_)
  · refine g_aln cx 0 dX11_parting_16 rfl ?_
    refine g_iln cx 1 dX11_parting_17 rfl ?_
    refine g_ic cx dX11_parting_18 k_ic0 ?_
    refine ob hf (fun q_5 hq_5 hf => ?_)
    refine g_callVGr (gs' := [(gX11 o cB cI cJ cZ (o_text 0) (o_verdict 0) (o_trial 0) (o_mending 0) (o_guess 0) (o_choice 0) (o_firstImage 0) (o_secondImage 0) (.ref (o_told 0)) (.ref (o_spare 0)) s_o), (gX7 o_told cB cI cJ cZ (o_told_words 0) (o_told_forms 0) (o_told_paper 0) (o_told_stock 0) s_o_told), (gX9 o_verdict cB cI cJ cZ q_5), (gX1 o_told_forms cB cI cJ cZ s_o_told_forms), (gX4 o_told_paper cB cI cJ cZ s_o_told_paper), (gX10 o_told_words cB cI cJ cZ s_o_told_words)]) cx lk_RX11_161 (c_X11_view l D cB cI cJ cZ o o_told o_verdict o_told_forms o_told_paper o_told_words o_text o_trial o_mending o_guess o_choice o_firstImage o_secondImage o_spare o_told_stock s_o s_o_told s_o_verdict s_o_told_forms s_o_told_paper s_o_told_words x1 0 q_5 hq_5) rfl [0, 1, 2, 3, 4, 5] rfl rfl rfl rfl (ci := 9) (q1 := 0) rfl rfl rfl (Nat.le_of_ble_eq_true rfl) ⟨rfl, rfl, Nat.le_of_ble_eq_true rfl, Nat.le_of_ble_eq_true rfl⟩ dX11_parting_19 ?_
    refine ob hf (fun q_6 hq_6 hf => ?_)
    refine g_callVGiR cx lk_RX11_180 (c_X9_isLaw l D cB cI cJ cZ o_verdict q_5 q_6 hq_6) rfl [2] rfl rfl (ci := 7) (q1 := 0) rfl rfl rfl (Nat.le_of_ble_eq_true rfl) ⟨rfl, rfl, Nat.le_of_ble_eq_true rfl, Nat.le_of_ble_eq_true rfl⟩ dX11_parting_22 ?_
    refine g_if_eq (tgt := 40) cx hf dX11_parting_25 rfl (fun hf => ?_) (fun hf => ?_)
    · refine g_bp cx dX11_parting_40 k_bpm9 ?_
      exact g_iret (ovf := fun (r : Int32 × S9 × S10) => (some (.int r.1))) (wf := fun (r : Int32 × S9 × S10) => (w_X11_parting o o_told o_verdict o_told_forms o_told_paper o_told_words o_text o_trial o_mending o_guess o_choice o_firstImage o_secondImage o_spare o_told_stock cB cI cJ cZ s_o s_o_told r.2.1 s_o_told_forms s_o_told_paper r.2.2 (.ref (o_told 0)) (.ref (o_spare 0)))) cx hA hr hf rfl rfl dX11_parting_42
    · refine g_aln cx 0 dX11_parting_28 rfl ?_
      refine g_iln cx 1 dX11_parting_29 rfl ?_
      refine g_ic cx dX11_parting_30 k_ic1 ?_
      refine ob hf (fun q_7 hq_7 hf => ?_)
      refine g_callVGr (gs' := [(gX11 o cB cI cJ cZ (o_text 0) (o_verdict 0) (o_trial 0) (o_mending 0) (o_guess 0) (o_choice 0) (o_firstImage 0) (o_secondImage 0) (.ref (o_told 0)) (.ref (o_spare 0)) s_o), (gX7 o_told cB cI cJ cZ (o_told_words 0) (o_told_forms 0) (o_told_paper 0) (o_told_stock 0) s_o_told), (gX9 o_verdict cB cI cJ cZ q_7), (gX1 o_told_forms cB cI cJ cZ s_o_told_forms), (gX4 o_told_paper cB cI cJ cZ s_o_told_paper), (gX10 o_told_words cB cI cJ cZ s_o_told_words)]) cx lk_RX11_161 (c_X11_view l D cB cI cJ cZ o o_told o_verdict o_told_forms o_told_paper o_told_words o_text o_trial o_mending o_guess o_choice o_firstImage o_secondImage o_spare o_told_stock s_o s_o_told q_5 s_o_told_forms s_o_told_paper s_o_told_words x1 1 q_7 hq_7) rfl [0, 1, 2, 3, 4, 5] rfl rfl rfl rfl (ci := 9) (q1 := 0) rfl rfl rfl (Nat.le_of_ble_eq_true rfl) ⟨rfl, rfl, Nat.le_of_ble_eq_true rfl, Nat.le_of_ble_eq_true rfl⟩ dX11_parting_31 ?_
      refine ob hf (fun q_8 hq_8 hf => ?_)
      refine g_callVGiR cx lk_RX11_180 (c_X9_isLaw l D cB cI cJ cZ o_verdict q_7 q_8 hq_8) rfl [2] rfl rfl (ci := 7) (q1 := 0) rfl rfl rfl (Nat.le_of_ble_eq_true rfl) ⟨rfl, rfl, Nat.le_of_ble_eq_true rfl, Nat.le_of_ble_eq_true rfl⟩ dX11_parting_34 ?_
      refine g_if_eq (tgt := 43) cx hf dX11_parting_37 rfl (fun hf => ?_) (fun hf => ?_)
      · refine g_ic cx dX11_parting_43 k_ic0 ?_
        refine g_isn cx (L2 := fun v2_9 => [(2, .int v2_9), (0, .ref (o 0)), (1, .int x1)]) hf dX11_parting_44 (Nat.le_of_ble_eq_true rfl) (fun _ => rfl) (fun v2_9 hf => ?_)
        refine g_sub [1, 2, 0] rfl ?_
        exact h45 fu _ _ _ hf
      · refine g_bp cx dX11_parting_40 k_bpm9 ?_
        exact g_iret (ovf := fun (r : Int32 × S9 × S10) => (some (.int r.1))) (wf := fun (r : Int32 × S9 × S10) => (w_X11_parting o o_told o_verdict o_told_forms o_told_paper o_told_words o_text o_trial o_mending o_guess o_choice o_firstImage o_secondImage o_spare o_told_stock cB cI cJ cZ s_o s_o_told r.2.1 s_o_told_forms s_o_told_paper r.2.2 (.ref (o_told 0)) (.ref (o_spare 0)))) cx hA hr hf rfl rfl dX11_parting_42
  · refine g_ic cx dX11_parting_14 k_icm1 ?_
    exact g_iret (ovf := fun (r : Int32 × S9 × S10) => (some (.int r.1))) (wf := fun (r : Int32 × S9 × S10) => (w_X11_parting o o_told o_verdict o_told_forms o_told_paper o_told_words o_text o_trial o_mending o_guess o_choice o_firstImage o_secondImage o_spare o_told_stock cB cI cJ cZ s_o s_o_told r.2.1 s_o_told_forms s_o_told_paper r.2.2 (.ref (o_told 0)) (.ref (o_spare 0)))) cx hA hr hf rfl rfl dX11_parting_15
theorem dX11_isLoosed_0 : decode cX11_isLoosed 0 = .ok (.aload_n 0, 1) := by decide +kernel
theorem dX11_isLoosed_1 : decode cX11_isLoosed 1 = .ok (.getfield 28, 3) := by decide +kernel
theorem dX11_isLoosed_4 : decode cX11_isLoosed 4 = .ok (.aload_n 0, 1) := by decide +kernel
theorem dX11_isLoosed_5 : decode cX11_isLoosed 5 = .ok (.getfield 62, 3) := by decide +kernel
theorem dX11_isLoosed_8 : decode cX11_isLoosed 8 = .ok (.getfield 127, 3) := by decide +kernel
theorem dX11_isLoosed_11 : decode cX11_isLoosed 11 = .ok (.invokevirtual 251, 3) := by decide +kernel
theorem dX11_isLoosed_14 : decode cX11_isLoosed 14 = .ok (.aload_n 0, 1) := by decide +kernel
theorem dX11_isLoosed_15 : decode cX11_isLoosed 15 = .ok (.getfield 28, 3) := by decide +kernel
theorem dX11_isLoosed_18 : decode cX11_isLoosed 18 = .ok (.iload 4, 2) := by decide +kernel
theorem dX11_isLoosed_20 : decode cX11_isLoosed 20 = .ok (.aload_n 0, 1) := by decide +kernel
theorem dX11_isLoosed_21 : decode cX11_isLoosed 21 = .ok (.getfield 62, 3) := by decide +kernel
theorem dX11_isLoosed_24 : decode cX11_isLoosed 24 = .ok (.getfield 133, 3) := by decide +kernel
theorem dX11_isLoosed_27 : decode cX11_isLoosed 27 = .ok (.iload 5, 2) := by decide +kernel
theorem dX11_isLoosed_29 : decode cX11_isLoosed 29 = .ok (.invokevirtual 148, 3) := by decide +kernel
theorem dX11_isLoosed_32 : decode cX11_isLoosed 32 = .ok (.aload_n 0, 1) := by decide +kernel
theorem dX11_isLoosed_33 : decode cX11_isLoosed 33 = .ok (.getfield 62, 3) := by decide +kernel
theorem dX11_isLoosed_36 : decode cX11_isLoosed 36 = .ok (.getfield 133, 3) := by decide +kernel
theorem dX11_isLoosed_39 : decode cX11_isLoosed 39 = .ok (.iload 5, 2) := by decide +kernel
theorem dX11_isLoosed_41 : decode cX11_isLoosed 41 = .ok (.invokevirtual 267, 3) := by decide +kernel
theorem dX11_isLoosed_44 : decode cX11_isLoosed 44 = .ok (.aload_n 0, 1) := by decide +kernel
theorem dX11_isLoosed_45 : decode cX11_isLoosed 45 = .ok (.getfield 62, 3) := by decide +kernel
theorem dX11_isLoosed_48 : decode cX11_isLoosed 48 = .ok (.getfield 133, 3) := by decide +kernel
theorem dX11_isLoosed_51 : decode cX11_isLoosed 51 = .ok (.iload 5, 2) := by decide +kernel
theorem dX11_isLoosed_53 : decode cX11_isLoosed 53 = .ok (.invokevirtual 270, 3) := by decide +kernel
theorem dX11_isLoosed_56 : decode cX11_isLoosed 56 = .ok (.invokevirtual 143, 3) := by decide +kernel
theorem dX11_isLoosed_59 : decode cX11_isLoosed 59 = .ok (.aload_n 0, 1) := by decide +kernel
theorem dX11_isLoosed_60 : decode cX11_isLoosed 60 = .ok (.getfield 19, 3) := by decide +kernel
theorem dX11_isLoosed_63 : decode cX11_isLoosed 63 = .ok (.aload_n 0, 1) := by decide +kernel
theorem dX11_isLoosed_64 : decode cX11_isLoosed 64 = .ok (.getfield 62, 3) := by decide +kernel
theorem dX11_isLoosed_67 : decode cX11_isLoosed 67 = .ok (.aload_n 0, 1) := by decide +kernel
theorem dX11_isLoosed_68 : decode cX11_isLoosed 68 = .ok (.getfield 28, 3) := by decide +kernel
theorem dX11_isLoosed_71 : decode cX11_isLoosed 71 = .ok (.iload_n 1, 1) := by decide +kernel
theorem dX11_isLoosed_72 : decode cX11_isLoosed 72 = .ok (.iload_n 2, 1) := by decide +kernel
theorem dX11_isLoosed_73 : decode cX11_isLoosed 73 = .ok (.invokevirtual 260, 3) := by decide +kernel
theorem dX11_isLoosed_76 : decode cX11_isLoosed 76 = .ok (.aload_n 0, 1) := by decide +kernel
theorem dX11_isLoosed_77 : decode cX11_isLoosed 77 = .ok (.getfield 19, 3) := by decide +kernel
theorem dX11_isLoosed_80 : decode cX11_isLoosed 80 = .ok (.iload 4, 2) := by decide +kernel
theorem dX11_isLoosed_82 : decode cX11_isLoosed 82 = .ok (.iload_n 3, 1) := by decide +kernel
theorem dX11_isLoosed_83 : decode cX11_isLoosed 83 = .ok (.if_icmp .gt 9, 3) := by decide +kernel
theorem dX11_isLoosed_86 : decode cX11_isLoosed 86 = .ok (.iload_n 3, 1) := by decide +kernel
theorem dX11_isLoosed_87 : decode cX11_isLoosed 87 = .ok (.iconst 1, 1) := by decide +kernel
theorem dX11_isLoosed_88 : decode cX11_isLoosed 88 = .ok (.iadd, 1) := by decide +kernel
theorem dX11_isLoosed_89 : decode cX11_isLoosed 89 = .ok (.goto 4, 3) := by decide +kernel
theorem dX11_isLoosed_92 : decode cX11_isLoosed 92 = .ok (.iload_n 3, 1) := by decide +kernel
theorem dX11_isLoosed_93 : decode cX11_isLoosed 93 = .ok (.invokevirtual 171, 3) := by decide +kernel
theorem dX11_isLoosed_96 : decode cX11_isLoosed 96 = .ok (.ifCond .ne 7, 3) := by decide +kernel
theorem dX11_isLoosed_99 : decode cX11_isLoosed 99 = .ok (.iconst 1, 1) := by decide +kernel
theorem dX11_isLoosed_100 : decode cX11_isLoosed 100 = .ok (.goto 4, 3) := by decide +kernel
theorem dX11_isLoosed_103 : decode cX11_isLoosed 103 = .ok (.iconst 0, 1) := by decide +kernel
theorem dX11_isLoosed_104 : decode cX11_isLoosed 104 = .ok (.ireturn, 1) := by decide +kernel
theorem q1_234 : Cond.fieldLink RX11 28 "RhymeLaw" "trial" "LRhymeLaw$Paper;" ∈ TT := tq1 234 rfl rfl
theorem q4_106 : Cond.methodLink RX11 251 yX4_copyFrom ∈ TT := tq4 106 rfl rfl
theorem q4_107 : Cond.instanceMethod yX4_copyFrom ∈ TT := tq4 107 rfl rfl
theorem q4_108 : Cond.selects RX4 yX4_copyFrom yX4_copyFrom ∈ TT := tq4 108 rfl rfl
theorem q4_109 : Cond.code yX4_copyFrom cX4_copyFrom 3 none ∈ TT := tq4 109 rfl rfl
theorem q4_111 : Cond.methodLink RX11 267 yX4_thingAt ∈ TT := tq4 111 rfl rfl
theorem q4_112 : Cond.methodLink RX11 270 yX4_beforeAt ∈ TT := tq4 112 rfl rfl
theorem fg_RX11_28 {p : Program} {l : Launch} {e : Env} {R : Room} {s : State} {m : MethodId} {args : Array Value} {below : List Frame} {meth : Method} {c : Code} {D : gG} {tys : List (ClassId × FieldType)} {A : Nat → Prop} {nL : Nat} {Q : State → Prop} {cells slots : Nat} {cc : ByteArray} {ws : va_W} {L : List (Nat × Value)} {pc : Nat} {stk : List Value} (cx : gX p s m args meth c cc nL RX11 D tys A) {a : Nat} {fs : List Value} {v : Value} (q0 : Nat) (he : ws[q0]? = some (a, .inr (9, fs))) (hv : fs[2]? = some v) (hd : decode cc pc = .ok (.getfield 28, 3)) (kk : gW p l e R s m args below meth c D A nL Q cells slots ws L (pc + 3) (v :: stk)) : gW p l e R s m args below meth c D A nL Q cells slots ws L pc (.ref a :: stk) :=
  g_get cx (C := RX11) (T := TX11) (N := 12) inT11 rfl 2 (Nat.le_of_ble_eq_true rfl) q1_234 rfl q0 he hv hd kk
theorem lk_RX11_251 : vlk RX11 251 yX4_copyFrom cX4_copyFrom 3 none 1 := ⟨List.forall_mem_cons.mpr ⟨q4_106, List.forall_mem_cons.mpr ⟨q4_107, List.forall_mem_cons.mpr ⟨q4_108, List.forall_mem_cons.mpr ⟨q1_4, fun _ h => absurd h List.not_mem_nil⟩⟩⟩⟩, q4_109, by decide, by decide, by decide +kernel⟩
theorem lk_RX11_267 : vlk RX11 267 yX4_thingAt cX4_thingAt 2 (some .int) 1 := ⟨List.forall_mem_cons.mpr ⟨q4_111, List.forall_mem_cons.mpr ⟨q3_5, List.forall_mem_cons.mpr ⟨q3_6, List.forall_mem_cons.mpr ⟨q1_4, fun _ h => absurd h List.not_mem_nil⟩⟩⟩⟩, q3_7, by decide, by decide, by decide +kernel⟩
theorem lk_RX11_270 : vlk RX11 270 yX4_beforeAt cX4_beforeAt 2 (some .int) 1 := ⟨List.forall_mem_cons.mpr ⟨q4_112, List.forall_mem_cons.mpr ⟨q3_9, List.forall_mem_cons.mpr ⟨q3_10, List.forall_mem_cons.mpr ⟨q1_4, fun _ h => absurd h List.not_mem_nil⟩⟩⟩⟩, q3_11, by decide, by decide, by decide +kernel⟩
def F_X11_isLoosed_b93 (s_o : S11) (s_o_told : S7) (s_o_told_forms : S1) (s_o_told_paper : S4) (s_o_told_stock : S4) (s_o_told_words : S10) (x1 : Int32) (x2 : Int32) (x3 : Int32) (x4 : Int32) (x5 : Int32) (zs_o_trial : S4) (zs_o_verdict : S9) (k1 : Int32) : Option (Int32 × S4 × S9) := (F_X9_binds zs_o_verdict k1).bind fun q_1 => (if q_1 = 0 then some (1, zs_o_trial, zs_o_verdict) else some (0, zs_o_trial, zs_o_verdict))
def F_X11_isLoosed (s_o : S11) (s_o_told : S7) (s_o_trial : S4) (s_o_verdict : S9) (s_o_told_forms : S1) (s_o_told_paper : S4) (s_o_told_stock : S4) (s_o_told_words : S10) (x1 : Int32) (x2 : Int32) (x3 : Int32) (x4 : Int32) (x5 : Int32) : Option (Int32 × S4 × S9) := (F_X4_copyFrom s_o_told_paper s_o_trial).bind fun q_2 => (F_X4_wordAt s_o_told_stock x5).bind fun q_3 => (F_X4_thingAt s_o_told_stock x5).bind fun q_4 => (F_X4_beforeAt s_o_told_stock x5).bind fun q_5 => (F_X4_insert q_2 x4 q_3 q_4 q_5).bind fun q_6 => (F_X9_judge s_o_told q_6 s_o_verdict s_o_told_forms s_o_told_words x1 x2).bind fun q_7 => (if x3 < x4 then F_X11_isLoosed_b93 s_o s_o_told s_o_told_forms s_o_told_paper s_o_told_stock s_o_told_words x1 x2 x3 x4 x5 q_6 q_7 x3 else F_X11_isLoosed_b93 s_o s_o_told s_o_told_forms s_o_told_paper s_o_told_stock s_o_told_words x1 x2 x3 x4 x5 q_6 q_7 (x3 + 1))
def w_X11_isLoosed (o o_told o_trial o_verdict o_told_forms o_told_paper o_told_stock o_told_words o_text o_mending o_guess o_choice o_firstImage o_secondImage o_spare : Nat → Nat) (cB cI cJ cZ : ClassId) (s_o : S11) (s_o_told : S7) (s_o_trial : S4) (s_o_verdict : S9) (s_o_told_forms : S1) (s_o_told_paper : S4) (s_o_told_stock : S4) (s_o_told_words : S10) (rf_o_told : Value) (rf_o_spare : Value) : va_W := List.flatten [(gX11 o cB cI cJ cZ (o_text 0) (o_verdict 0) (o_trial 0) (o_mending 0) (o_guess 0) (o_choice 0) (o_firstImage 0) (o_secondImage 0) rf_o_told rf_o_spare s_o), (gX7 o_told cB cI cJ cZ (o_told_words 0) (o_told_forms 0) (o_told_paper 0) (o_told_stock 0) s_o_told), (gX4 o_trial cB cI cJ cZ s_o_trial), (gX9 o_verdict cB cI cJ cZ s_o_verdict), (gX1 o_told_forms cB cI cJ cZ s_o_told_forms), (gX4 o_told_paper cB cI cJ cZ s_o_told_paper), (gX4 o_told_stock cB cI cJ cZ s_o_told_stock), (gX10 o_told_words cB cI cJ cZ s_o_told_words)]
abbrev rm_X11_isLoosed : Room := { frames := 4, cells := 0, slots := 0, locals := 94 }
set_option maxHeartbeats 4000000 in
set_option maxRecDepth 100000 in
theorem c_X11_isLoosed (l : Launch) (D : gG) (cB cI cJ cZ : ClassId) (o o_told o_trial o_verdict o_told_forms o_told_paper o_told_stock o_told_words o_text o_mending o_guess o_choice o_firstImage o_secondImage o_spare : Nat → Nat) (s_o : S11) (s_o_told : S7) (s_o_trial : S4) (s_o_verdict : S9) (s_o_told_forms : S1) (s_o_told_paper : S4) (s_o_told_stock : S4) (s_o_told_words : S10) (x1 : Int32) (x2 : Int32) (x3 : Int32) (x4 : Int32) (x5 : Int32) (r : Int32 × S4 × S9) (hf : F_X11_isLoosed s_o s_o_told s_o_trial s_o_verdict s_o_told_forms s_o_told_paper s_o_told_stock s_o_told_words x1 x2 x3 x4 x5 = some r) : gM l D (tyL cB cI cJ cZ) yX11_isLoosed cX11_isLoosed 6 (some .boolean) rm_X11_isLoosed [.ref (o 0), .int x1, .int x2, .int x3, .int x4, .int x5] (w_X11_isLoosed o o_told o_trial o_verdict o_told_forms o_told_paper o_told_stock o_told_words o_text o_mending o_guess o_choice o_firstImage o_secondImage o_spare cB cI cJ cZ s_o s_o_told s_o_trial s_o_verdict s_o_told_forms s_o_told_paper s_o_told_stock s_o_told_words (.ref (o_told 0)) (.ref (o_spare 0))) (some (.int r.1)) (w_X11_isLoosed o o_told o_trial o_verdict o_told_forms o_told_paper o_told_stock o_told_words o_text o_mending o_guess o_choice o_firstImage o_secondImage o_spare cB cI cJ cZ s_o s_o_told r.2.1 r.2.2 s_o_told_forms s_o_told_paper s_o_told_stock s_o_told_words (.ref (o_told 0)) (.ref (o_spare 0))) := by
  refine met_of (by decide) (Nat.le_of_ble_eq_true rfl) ?_
  intro p e s m args below meth c A cx hr hA
  show gW p l e rm_X11_isLoosed s m args below meth c D A 6 _ 0 0 _ [(0, .ref (o 0)), (1, .int x1), (2, .int x2), (3, .int x3), (4, .int x4), (5, .int x5)] 0 []
  have h93 : ∀ (zs_o_trial : S4) (zs_o_verdict : S9) (k1 : Int32), F_X11_isLoosed_b93 s_o s_o_told s_o_told_forms s_o_told_paper s_o_told_stock s_o_told_words x1 x2 x3 x4 x5 zs_o_trial zs_o_verdict k1 = some r → gW p l e rm_X11_isLoosed s m args below meth c D A 6 (MQ below (QM D (tyL cB cI cJ cZ) (some (.int r.1)) (w_X11_isLoosed o o_told o_trial o_verdict o_told_forms o_told_paper o_told_stock o_told_words o_text o_mending o_guess o_choice o_firstImage o_secondImage o_spare cB cI cJ cZ s_o s_o_told s_o_trial s_o_verdict s_o_told_forms s_o_told_paper s_o_told_stock s_o_told_words (.ref (o_told 0)) (.ref (o_spare 0))) (w_X11_isLoosed o o_told o_trial o_verdict o_told_forms o_told_paper o_told_stock o_told_words o_text o_mending o_guess o_choice o_firstImage o_secondImage o_spare cB cI cJ cZ s_o s_o_told r.2.1 r.2.2 s_o_told_forms s_o_told_paper s_o_told_stock s_o_told_words (.ref (o_told 0)) (.ref (o_spare 0))) s.heap.size) args s 0 0 A) 0 0 (w_X11_isLoosed o o_told o_trial o_verdict o_told_forms o_told_paper o_told_stock o_told_words o_text o_mending o_guess o_choice o_firstImage o_secondImage o_spare cB cI cJ cZ s_o s_o_told zs_o_trial zs_o_verdict s_o_told_forms s_o_told_paper s_o_told_stock s_o_told_words (.ref (o_told 0)) (.ref (o_spare 0))) [] 93 [.int k1, .ref (o_verdict 0)] := by
    intro zs_o_trial zs_o_verdict k1 hf
    rw [F_X11_isLoosed_b93] at hf
    refine ob hf (fun q_1 hq_1 hf => ?_)
    refine g_callVGiR cx lk_RX11_171 (c_X9_binds l D cB cI cJ cZ o_verdict zs_o_verdict k1 q_1 hq_1) rfl [3] rfl rfl (ci := 7) (q1 := 0) rfl rfl rfl (Nat.le_of_ble_eq_true rfl) ⟨rfl, rfl, Nat.le_of_ble_eq_true rfl, Nat.le_of_ble_eq_true rfl⟩ dX11_isLoosed_93 ?_
    refine g_if_ne (tgt := 103) cx hf dX11_isLoosed_96 rfl (fun hf => ?_) (fun hf => ?_)
    · refine g_ic cx dX11_isLoosed_103 k_ic0 ?_
      exact g_zret (ovf := fun (r : Int32 × S4 × S9) => (some (.int r.1))) (wf := fun (r : Int32 × S4 × S9) => (w_X11_isLoosed o o_told o_trial o_verdict o_told_forms o_told_paper o_told_stock o_told_words o_text o_mending o_guess o_choice o_firstImage o_secondImage o_spare cB cI cJ cZ s_o s_o_told r.2.1 r.2.2 s_o_told_forms s_o_told_paper s_o_told_stock s_o_told_words (.ref (o_told 0)) (.ref (o_spare 0)))) cx hA hr rfl hf rfl rfl dX11_isLoosed_104
    · refine g_ic cx dX11_isLoosed_99 k_ic1 ?_
      refine g_goto (tgt := 104) cx dX11_isLoosed_100 rfl ?_
      exact g_zret (ovf := fun (r : Int32 × S4 × S9) => (some (.int r.1))) (wf := fun (r : Int32 × S4 × S9) => (w_X11_isLoosed o o_told o_trial o_verdict o_told_forms o_told_paper o_told_stock o_told_words o_text o_mending o_guess o_choice o_firstImage o_secondImage o_spare cB cI cJ cZ s_o s_o_told r.2.1 r.2.2 s_o_told_forms s_o_told_paper s_o_told_stock s_o_told_words (.ref (o_told 0)) (.ref (o_spare 0)))) cx hA hr rfl hf rfl rfl dX11_isLoosed_104
  rw [F_X11_isLoosed] at hf
  refine g_aln cx 0 dX11_isLoosed_0 rfl ?_
  refine fg_RX11_28 cx 0 rfl rfl dX11_isLoosed_1 ?_
  refine g_aln cx 0 dX11_isLoosed_4 rfl ?_
  refine fg_RX11_62 cx 0 rfl rfl dX11_isLoosed_5 ?_
  refine fg_RX11_127 cx 1 rfl rfl dX11_isLoosed_8 ?_
  refine ob hf (fun q_2 hq_2 hf => ?_)
  refine g_callVGv (gs' := [(gX11 o cB cI cJ cZ (o_text 0) (o_verdict 0) (o_trial 0) (o_mending 0) (o_guess 0) (o_choice 0) (o_firstImage 0) (o_secondImage 0) (.ref (o_told 0)) (.ref (o_spare 0)) s_o), (gX7 o_told cB cI cJ cZ (o_told_words 0) (o_told_forms 0) (o_told_paper 0) (o_told_stock 0) s_o_told), (gX4 o_trial cB cI cJ cZ q_2), (gX9 o_verdict cB cI cJ cZ s_o_verdict), (gX1 o_told_forms cB cI cJ cZ s_o_told_forms), (gX4 o_told_paper cB cI cJ cZ s_o_told_paper), (gX4 o_told_stock cB cI cJ cZ s_o_told_stock), (gX10 o_told_words cB cI cJ cZ s_o_told_words)]) cx lk_RX11_251 (c_X4_copyFrom l D cB cI cJ cZ o_told_paper o_trial s_o_told_paper s_o_trial q_2 hq_2) rfl [5, 2] rfl rfl rfl rfl (ci := 4) (q1 := 4) rfl rfl rfl (Nat.le_of_ble_eq_true rfl) ⟨rfl, rfl, Nat.le_of_ble_eq_true rfl, Nat.le_of_ble_eq_true rfl⟩ dX11_isLoosed_11 ?_
  refine g_aln cx 0 dX11_isLoosed_14 rfl ?_
  refine fg_RX11_28 cx 0 rfl rfl dX11_isLoosed_15 ?_
  refine g_il cx 4 dX11_isLoosed_18 rfl ?_
  refine g_aln cx 0 dX11_isLoosed_20 rfl ?_
  refine fg_RX11_62 cx 0 rfl rfl dX11_isLoosed_21 ?_
  refine fg_RX11_133 cx 1 rfl rfl dX11_isLoosed_24 ?_
  refine g_il cx 5 dX11_isLoosed_27 rfl ?_
  refine ob hf (fun q_3 hq_3 hf => ?_)
  refine g_callVGiR cx lk_RX11_148 (c_X4_wordAt l D cB cI cJ cZ o_told_stock s_o_told_stock x5 q_3 hq_3) rfl [6] rfl rfl (ci := 4) (q1 := 0) rfl rfl rfl (Nat.le_of_ble_eq_true rfl) ⟨rfl, rfl, Nat.le_of_ble_eq_true rfl, Nat.le_of_ble_eq_true rfl⟩ dX11_isLoosed_29 ?_
  refine g_aln cx 0 dX11_isLoosed_32 rfl ?_
  refine fg_RX11_62 cx 0 rfl rfl dX11_isLoosed_33 ?_
  refine fg_RX11_133 cx 1 rfl rfl dX11_isLoosed_36 ?_
  refine g_il cx 5 dX11_isLoosed_39 rfl ?_
  refine ob hf (fun q_4 hq_4 hf => ?_)
  refine g_callVGiR cx lk_RX11_267 (c_X4_thingAt l D cB cI cJ cZ o_told_stock s_o_told_stock x5 q_4 hq_4) rfl [6] rfl rfl (ci := 4) (q1 := 0) rfl rfl rfl (Nat.le_of_ble_eq_true rfl) ⟨rfl, rfl, Nat.le_of_ble_eq_true rfl, Nat.le_of_ble_eq_true rfl⟩ dX11_isLoosed_41 ?_
  refine g_aln cx 0 dX11_isLoosed_44 rfl ?_
  refine fg_RX11_62 cx 0 rfl rfl dX11_isLoosed_45 ?_
  refine fg_RX11_133 cx 1 rfl rfl dX11_isLoosed_48 ?_
  refine g_il cx 5 dX11_isLoosed_51 rfl ?_
  refine ob hf (fun q_5 hq_5 hf => ?_)
  refine g_callVGiR cx lk_RX11_270 (c_X4_beforeAt l D cB cI cJ cZ o_told_stock s_o_told_stock x5 q_5 hq_5) rfl [6] rfl rfl (ci := 4) (q1 := 0) rfl rfl rfl (Nat.le_of_ble_eq_true rfl) ⟨rfl, rfl, Nat.le_of_ble_eq_true rfl, Nat.le_of_ble_eq_true rfl⟩ dX11_isLoosed_53 ?_
  refine ob hf (fun q_6 hq_6 hf => ?_)
  refine g_callVGv (gs' := [(gX11 o cB cI cJ cZ (o_text 0) (o_verdict 0) (o_trial 0) (o_mending 0) (o_guess 0) (o_choice 0) (o_firstImage 0) (o_secondImage 0) (.ref (o_told 0)) (.ref (o_spare 0)) s_o), (gX7 o_told cB cI cJ cZ (o_told_words 0) (o_told_forms 0) (o_told_paper 0) (o_told_stock 0) s_o_told), (gX4 o_trial cB cI cJ cZ q_6), (gX9 o_verdict cB cI cJ cZ s_o_verdict), (gX1 o_told_forms cB cI cJ cZ s_o_told_forms), (gX4 o_told_paper cB cI cJ cZ s_o_told_paper), (gX4 o_told_stock cB cI cJ cZ s_o_told_stock), (gX10 o_told_words cB cI cJ cZ s_o_told_words)]) cx lk_RX11_143 (c_X4_insert l D cB cI cJ cZ o_trial q_2 x4 q_3 q_4 q_5 q_6 hq_6) rfl [2] rfl rfl rfl rfl (ci := 4) (q1 := 0) rfl rfl rfl (Nat.le_of_ble_eq_true rfl) ⟨rfl, rfl, Nat.le_of_ble_eq_true rfl, Nat.le_of_ble_eq_true rfl⟩ dX11_isLoosed_56 ?_
  refine g_aln cx 0 dX11_isLoosed_59 rfl ?_
  refine fg_RX11_19 cx 0 rfl rfl dX11_isLoosed_60 ?_
  refine g_aln cx 0 dX11_isLoosed_63 rfl ?_
  refine fg_RX11_62 cx 0 rfl rfl dX11_isLoosed_64 ?_
  refine g_aln cx 0 dX11_isLoosed_67 rfl ?_
  refine fg_RX11_28 cx 0 rfl rfl dX11_isLoosed_68 ?_
  refine g_iln cx 1 dX11_isLoosed_71 rfl ?_
  refine g_iln cx 2 dX11_isLoosed_72 rfl ?_
  refine ob hf (fun q_7 hq_7 hf => ?_)
  refine g_callVGv (gs' := [(gX11 o cB cI cJ cZ (o_text 0) (o_verdict 0) (o_trial 0) (o_mending 0) (o_guess 0) (o_choice 0) (o_firstImage 0) (o_secondImage 0) (.ref (o_told 0)) (.ref (o_spare 0)) s_o), (gX7 o_told cB cI cJ cZ (o_told_words 0) (o_told_forms 0) (o_told_paper 0) (o_told_stock 0) s_o_told), (gX4 o_trial cB cI cJ cZ q_6), (gX9 o_verdict cB cI cJ cZ q_7), (gX1 o_told_forms cB cI cJ cZ s_o_told_forms), (gX4 o_told_paper cB cI cJ cZ s_o_told_paper), (gX4 o_told_stock cB cI cJ cZ s_o_told_stock), (gX10 o_told_words cB cI cJ cZ s_o_told_words)]) cx lk_RX11_260 (c_X9_judge l D cB cI cJ cZ o_told o_trial o_verdict o_told_forms o_told_words o_told_paper o_told_stock s_o_told q_6 s_o_verdict s_o_told_forms s_o_told_words x1 x2 q_7 hq_7) rfl [1, 2, 3, 4, 7] rfl rfl rfl rfl (ci := 7) (q1 := 6) rfl rfl rfl (Nat.le_of_ble_eq_true rfl) ⟨rfl, rfl, Nat.le_of_ble_eq_true rfl, Nat.le_of_ble_eq_true rfl⟩ dX11_isLoosed_73 ?_
  refine g_aln cx 0 dX11_isLoosed_76 rfl ?_
  refine fg_RX11_19 cx 0 rfl rfl dX11_isLoosed_77 ?_
  refine g_il cx 4 dX11_isLoosed_80 rfl ?_
  refine g_iln cx 3 dX11_isLoosed_82 rfl ?_
  refine g_ic_gt (tgt := 92) cx hf dX11_isLoosed_83 rfl (fun hf => ?_) (fun hf => ?_)
  · refine g_iln cx 3 dX11_isLoosed_92 rfl ?_
    refine g_sub [] rfl ?_
    exact h93 _ _ _ hf
  · refine g_iln cx 3 dX11_isLoosed_86 rfl ?_
    refine g_ic cx dX11_isLoosed_87 k_ic1 ?_
    refine g_iadd cx dX11_isLoosed_88 ?_
    refine g_goto (tgt := 93) cx dX11_isLoosed_89 rfl ?_
    refine g_sub [] rfl ?_
    exact h93 _ _ _ hf
def tX11_forged_8 : List Nat := 16 :: 247 :: 172 :: []
def tX11_forged_7 : List Nat := 21 :: 5 :: 96 :: 172 :: 132 :: 5 :: 1 :: 167 :: 255 :: 215 :: 132 :: 4 :: 1 :: 167 :: 255 :: 191 :: tX11_forged_8
def tX11_forged_6 : List Nat := 29 :: 21 :: 4 :: 21 :: 5 :: 182 :: 0 :: 215 :: 153 :: 0 :: 12 :: 16 :: 10 :: 21 :: 4 :: 104 :: tX11_forged_7
def tX11_forged_5 : List Nat := 42 :: 180 :: 0 :: 62 :: 180 :: 0 :: 133 :: 182 :: 0 :: 136 :: 162 :: 0 :: 32 :: 42 :: 27 :: 28 :: tX11_forged_6
def tX11_forged_4 : List Nat := 0 :: 62 :: 180 :: 0 :: 127 :: 182 :: 0 :: 136 :: 163 :: 0 :: 56 :: 3 :: 54 :: 5 :: 21 :: 5 :: tX11_forged_5
def tX11_forged_3 : List Nat := 182 :: 0 :: 139 :: 153 :: 0 :: 6 :: 16 :: 253 :: 172 :: 3 :: 54 :: 4 :: 21 :: 4 :: 42 :: 180 :: tX11_forged_4
def tX11_forged_2 : List Nat := 182 :: 0 :: 171 :: 154 :: 0 :: 6 :: 16 :: 254 :: 172 :: 42 :: 180 :: 0 :: 62 :: 180 :: 0 :: 127 :: tX11_forged_3
def tX11_forged_1 : List Nat := 29 :: 182 :: 0 :: 147 :: 154 :: 0 :: 5 :: 2 :: 172 :: 42 :: 27 :: 28 :: 182 :: 0 :: 161 :: 29 :: tX11_forged_2
def tX11_forged_0 : List Nat := 42 :: 27 :: 28 :: 182 :: 0 :: 157 :: 154 :: 0 :: 17 :: 42 :: 180 :: 0 :: 62 :: 180 :: 0 :: 127 :: tX11_forged_1
theorem tX11_forgedf_0 : (cX11_forged.data.toList.map UInt8.toNat).drop 0 = tX11_forged_0 := by decide +kernel
theorem tX11_forgedf_1 : (cX11_forged.data.toList.map UInt8.toNat).drop 16 = tX11_forged_1 := fd_next (k := 0) tX11_forgedf_0 rfl
theorem tX11_forgedf_2 : (cX11_forged.data.toList.map UInt8.toNat).drop 32 = tX11_forged_2 := fd_next (k := 16) tX11_forgedf_1 rfl
theorem tX11_forgedf_3 : (cX11_forged.data.toList.map UInt8.toNat).drop 48 = tX11_forged_3 := fd_next (k := 32) tX11_forgedf_2 rfl
theorem tX11_forgedf_4 : (cX11_forged.data.toList.map UInt8.toNat).drop 64 = tX11_forged_4 := fd_next (k := 48) tX11_forgedf_3 rfl
theorem tX11_forgedf_5 : (cX11_forged.data.toList.map UInt8.toNat).drop 80 = tX11_forged_5 := fd_next (k := 64) tX11_forgedf_4 rfl
theorem tX11_forgedf_6 : (cX11_forged.data.toList.map UInt8.toNat).drop 96 = tX11_forged_6 := fd_next (k := 80) tX11_forgedf_5 rfl
theorem tX11_forgedf_7 : (cX11_forged.data.toList.map UInt8.toNat).drop 112 = tX11_forged_7 := fd_next (k := 96) tX11_forgedf_6 rfl
theorem tX11_forgedf_8 : (cX11_forged.data.toList.map UInt8.toNat).drop 128 = tX11_forged_8 := fd_next (k := 112) tX11_forgedf_7 rfl
theorem dX11_forged_0 : decode cX11_forged 0 = .ok (.aload_n 0, 1) := dk_42 (fdB_of (k := 0) tX11_forgedf_0 0 42 rfl)
theorem dX11_forged_1 : decode cX11_forged 1 = .ok (.iload_n 1, 1) := dk_27 (fdB_of (k := 0) tX11_forgedf_0 1 27 rfl)
theorem dX11_forged_2 : decode cX11_forged 2 = .ok (.iload_n 2, 1) := dk_28 (fdB_of (k := 0) tX11_forgedf_0 2 28 rfl)
theorem dX11_forged_3 : decode cX11_forged 3 = .ok (.invokevirtual 157, 3) := dk_182 (fdB_of (k := 0) tX11_forgedf_0 3 182 rfl) (fdB_of (k := 0) tX11_forgedf_0 4 0 rfl) (fdB_of (k := 0) tX11_forgedf_0 5 157 rfl)
theorem dX11_forged_6 : decode cX11_forged 6 = .ok (.ifCond .ne 17, 3) := dk_154 (fdB_of (k := 0) tX11_forgedf_0 6 154 rfl) (fdB_of (k := 0) tX11_forgedf_0 7 0 rfl) (fdB_of (k := 0) tX11_forgedf_0 8 17 rfl) (by decide +kernel)
theorem dX11_forged_9 : decode cX11_forged 9 = .ok (.aload_n 0, 1) := dk_42 (fdB_of (k := 0) tX11_forgedf_0 9 42 rfl)
theorem dX11_forged_10 : decode cX11_forged 10 = .ok (.getfield 62, 3) := dk_180 (fdB_of (k := 0) tX11_forgedf_0 10 180 rfl) (fdB_of (k := 0) tX11_forgedf_0 11 0 rfl) (fdB_of (k := 0) tX11_forgedf_0 12 62 rfl)
theorem dX11_forged_13 : decode cX11_forged 13 = .ok (.getfield 127, 3) := dk_180 (fdB_of (k := 0) tX11_forgedf_0 13 180 rfl) (fdB_of (k := 0) tX11_forgedf_0 14 0 rfl) (fdB_of (k := 0) tX11_forgedf_0 15 127 rfl)
theorem dX11_forged_16 : decode cX11_forged 16 = .ok (.iload_n 3, 1) := dk_29 (fdB_of (k := 16) tX11_forgedf_1 0 29 rfl)
theorem dX11_forged_17 : decode cX11_forged 17 = .ok (.invokevirtual 147, 3) := dk_182 (fdB_of (k := 16) tX11_forgedf_1 1 182 rfl) (fdB_of (k := 16) tX11_forgedf_1 2 0 rfl) (fdB_of (k := 16) tX11_forgedf_1 3 147 rfl)
theorem dX11_forged_20 : decode cX11_forged 20 = .ok (.ifCond .ne 5, 3) := dk_154 (fdB_of (k := 16) tX11_forgedf_1 4 154 rfl) (fdB_of (k := 16) tX11_forgedf_1 5 0 rfl) (fdB_of (k := 16) tX11_forgedf_1 6 5 rfl) (by decide +kernel)
theorem dX11_forged_23 : decode cX11_forged 23 = .ok (.iconst (-1), 1) := dk_2 (fdB_of (k := 16) tX11_forgedf_1 7 2 rfl)
theorem dX11_forged_24 : decode cX11_forged 24 = .ok (.ireturn, 1) := dk_172 (fdB_of (k := 16) tX11_forgedf_1 8 172 rfl)
theorem dX11_forged_25 : decode cX11_forged 25 = .ok (.aload_n 0, 1) := dk_42 (fdB_of (k := 16) tX11_forgedf_1 9 42 rfl)
theorem dX11_forged_26 : decode cX11_forged 26 = .ok (.iload_n 1, 1) := dk_27 (fdB_of (k := 16) tX11_forgedf_1 10 27 rfl)
theorem dX11_forged_27 : decode cX11_forged 27 = .ok (.iload_n 2, 1) := dk_28 (fdB_of (k := 16) tX11_forgedf_1 11 28 rfl)
theorem dX11_forged_28 : decode cX11_forged 28 = .ok (.invokevirtual 161, 3) := dk_182 (fdB_of (k := 16) tX11_forgedf_1 12 182 rfl) (fdB_of (k := 16) tX11_forgedf_1 13 0 rfl) (fdB_of (k := 16) tX11_forgedf_1 14 161 rfl)
theorem dX11_forged_31 : decode cX11_forged 31 = .ok (.iload_n 3, 1) := dk_29 (fdB_of (k := 16) tX11_forgedf_1 15 29 rfl)
theorem dX11_forged_32 : decode cX11_forged 32 = .ok (.invokevirtual 171, 3) := dk_182 (fdB_of (k := 32) tX11_forgedf_2 0 182 rfl) (fdB_of (k := 32) tX11_forgedf_2 1 0 rfl) (fdB_of (k := 32) tX11_forgedf_2 2 171 rfl)
theorem dX11_forged_35 : decode cX11_forged 35 = .ok (.ifCond .ne 6, 3) := dk_154 (fdB_of (k := 32) tX11_forgedf_2 3 154 rfl) (fdB_of (k := 32) tX11_forgedf_2 4 0 rfl) (fdB_of (k := 32) tX11_forgedf_2 5 6 rfl) (by decide +kernel)
theorem dX11_forged_38 : decode cX11_forged 38 = .ok (.bipush (-2), 2) := dk_16 (fdB_of (k := 32) tX11_forgedf_2 6 16 rfl) (fdB_of (k := 32) tX11_forgedf_2 7 254 rfl) (by decide +kernel)
theorem dX11_forged_40 : decode cX11_forged 40 = .ok (.ireturn, 1) := dk_172 (fdB_of (k := 32) tX11_forgedf_2 8 172 rfl)
theorem dX11_forged_41 : decode cX11_forged 41 = .ok (.aload_n 0, 1) := dk_42 (fdB_of (k := 32) tX11_forgedf_2 9 42 rfl)
theorem dX11_forged_42 : decode cX11_forged 42 = .ok (.getfield 62, 3) := dk_180 (fdB_of (k := 32) tX11_forgedf_2 10 180 rfl) (fdB_of (k := 32) tX11_forgedf_2 11 0 rfl) (fdB_of (k := 32) tX11_forgedf_2 12 62 rfl)
theorem dX11_forged_45 : decode cX11_forged 45 = .ok (.getfield 127, 3) := dk_180 (fdB_of (k := 32) tX11_forgedf_2 13 180 rfl) (fdB_of (k := 32) tX11_forgedf_2 14 0 rfl) (fdB_of (k := 32) tX11_forgedf_2 15 127 rfl)
theorem dX11_forged_48 : decode cX11_forged 48 = .ok (.invokevirtual 139, 3) := dk_182 (fdB_of (k := 48) tX11_forgedf_3 0 182 rfl) (fdB_of (k := 48) tX11_forgedf_3 1 0 rfl) (fdB_of (k := 48) tX11_forgedf_3 2 139 rfl)
theorem dX11_forged_51 : decode cX11_forged 51 = .ok (.ifCond .eq 6, 3) := dk_153 (fdB_of (k := 48) tX11_forgedf_3 3 153 rfl) (fdB_of (k := 48) tX11_forgedf_3 4 0 rfl) (fdB_of (k := 48) tX11_forgedf_3 5 6 rfl) (by decide +kernel)
theorem dX11_forged_54 : decode cX11_forged 54 = .ok (.bipush (-3), 2) := dk_16 (fdB_of (k := 48) tX11_forgedf_3 6 16 rfl) (fdB_of (k := 48) tX11_forgedf_3 7 253 rfl) (by decide +kernel)
theorem dX11_forged_56 : decode cX11_forged 56 = .ok (.ireturn, 1) := dk_172 (fdB_of (k := 48) tX11_forgedf_3 8 172 rfl)
theorem dX11_forged_57 : decode cX11_forged 57 = .ok (.iconst 0, 1) := dk_3 (fdB_of (k := 48) tX11_forgedf_3 9 3 rfl)
theorem dX11_forged_58 : decode cX11_forged 58 = .ok (.istore 4, 2) := dk_54 (fdB_of (k := 48) tX11_forgedf_3 10 54 rfl) (fdB_of (k := 48) tX11_forgedf_3 11 4 rfl)
theorem dX11_forged_60 : decode cX11_forged 60 = .ok (.iload 4, 2) := dk_21 (fdB_of (k := 48) tX11_forgedf_3 12 21 rfl) (fdB_of (k := 48) tX11_forgedf_3 13 4 rfl)
theorem dX11_forged_62 : decode cX11_forged 62 = .ok (.aload_n 0, 1) := dk_42 (fdB_of (k := 48) tX11_forgedf_3 14 42 rfl)
theorem dX11_forged_63 : decode cX11_forged 63 = .ok (.getfield 62, 3) := dk_180 (fdB_of (k := 48) tX11_forgedf_3 15 180 rfl) (fdB_of (k := 64) tX11_forgedf_4 0 0 rfl) (fdB_of (k := 64) tX11_forgedf_4 1 62 rfl)
theorem dX11_forged_66 : decode cX11_forged 66 = .ok (.getfield 127, 3) := dk_180 (fdB_of (k := 64) tX11_forgedf_4 2 180 rfl) (fdB_of (k := 64) tX11_forgedf_4 3 0 rfl) (fdB_of (k := 64) tX11_forgedf_4 4 127 rfl)
theorem dX11_forged_69 : decode cX11_forged 69 = .ok (.invokevirtual 136, 3) := dk_182 (fdB_of (k := 64) tX11_forgedf_4 5 182 rfl) (fdB_of (k := 64) tX11_forgedf_4 6 0 rfl) (fdB_of (k := 64) tX11_forgedf_4 7 136 rfl)
theorem dX11_forged_72 : decode cX11_forged 72 = .ok (.if_icmp .gt 56, 3) := dk_163 (fdB_of (k := 64) tX11_forgedf_4 8 163 rfl) (fdB_of (k := 64) tX11_forgedf_4 9 0 rfl) (fdB_of (k := 64) tX11_forgedf_4 10 56 rfl) (by decide +kernel)
theorem dX11_forged_75 : decode cX11_forged 75 = .ok (.iconst 0, 1) := dk_3 (fdB_of (k := 64) tX11_forgedf_4 11 3 rfl)
theorem dX11_forged_76 : decode cX11_forged 76 = .ok (.istore 5, 2) := dk_54 (fdB_of (k := 64) tX11_forgedf_4 12 54 rfl) (fdB_of (k := 64) tX11_forgedf_4 13 5 rfl)
theorem dX11_forged_78 : decode cX11_forged 78 = .ok (.iload 5, 2) := dk_21 (fdB_of (k := 64) tX11_forgedf_4 14 21 rfl) (fdB_of (k := 64) tX11_forgedf_4 15 5 rfl)
theorem dX11_forged_80 : decode cX11_forged 80 = .ok (.aload_n 0, 1) := dk_42 (fdB_of (k := 80) tX11_forgedf_5 0 42 rfl)
theorem dX11_forged_81 : decode cX11_forged 81 = .ok (.getfield 62, 3) := dk_180 (fdB_of (k := 80) tX11_forgedf_5 1 180 rfl) (fdB_of (k := 80) tX11_forgedf_5 2 0 rfl) (fdB_of (k := 80) tX11_forgedf_5 3 62 rfl)
theorem dX11_forged_84 : decode cX11_forged 84 = .ok (.getfield 133, 3) := dk_180 (fdB_of (k := 80) tX11_forgedf_5 4 180 rfl) (fdB_of (k := 80) tX11_forgedf_5 5 0 rfl) (fdB_of (k := 80) tX11_forgedf_5 6 133 rfl)
theorem dX11_forged_87 : decode cX11_forged 87 = .ok (.invokevirtual 136, 3) := dk_182 (fdB_of (k := 80) tX11_forgedf_5 7 182 rfl) (fdB_of (k := 80) tX11_forgedf_5 8 0 rfl) (fdB_of (k := 80) tX11_forgedf_5 9 136 rfl)
theorem dX11_forged_90 : decode cX11_forged 90 = .ok (.if_icmp .ge 32, 3) := dk_162 (fdB_of (k := 80) tX11_forgedf_5 10 162 rfl) (fdB_of (k := 80) tX11_forgedf_5 11 0 rfl) (fdB_of (k := 80) tX11_forgedf_5 12 32 rfl) (by decide +kernel)
theorem dX11_forged_93 : decode cX11_forged 93 = .ok (.aload_n 0, 1) := dk_42 (fdB_of (k := 80) tX11_forgedf_5 13 42 rfl)
theorem dX11_forged_94 : decode cX11_forged 94 = .ok (.iload_n 1, 1) := dk_27 (fdB_of (k := 80) tX11_forgedf_5 14 27 rfl)
theorem dX11_forged_95 : decode cX11_forged 95 = .ok (.iload_n 2, 1) := dk_28 (fdB_of (k := 80) tX11_forgedf_5 15 28 rfl)
theorem dX11_forged_96 : decode cX11_forged 96 = .ok (.iload_n 3, 1) := dk_29 (fdB_of (k := 96) tX11_forgedf_6 0 29 rfl)
theorem dX11_forged_97 : decode cX11_forged 97 = .ok (.iload 4, 2) := dk_21 (fdB_of (k := 96) tX11_forgedf_6 1 21 rfl) (fdB_of (k := 96) tX11_forgedf_6 2 4 rfl)
theorem dX11_forged_99 : decode cX11_forged 99 = .ok (.iload 5, 2) := dk_21 (fdB_of (k := 96) tX11_forgedf_6 3 21 rfl) (fdB_of (k := 96) tX11_forgedf_6 4 5 rfl)
theorem dX11_forged_101 : decode cX11_forged 101 = .ok (.invokevirtual 215, 3) := dk_182 (fdB_of (k := 96) tX11_forgedf_6 5 182 rfl) (fdB_of (k := 96) tX11_forgedf_6 6 0 rfl) (fdB_of (k := 96) tX11_forgedf_6 7 215 rfl)
theorem dX11_forged_104 : decode cX11_forged 104 = .ok (.ifCond .eq 12, 3) := dk_153 (fdB_of (k := 96) tX11_forgedf_6 8 153 rfl) (fdB_of (k := 96) tX11_forgedf_6 9 0 rfl) (fdB_of (k := 96) tX11_forgedf_6 10 12 rfl) (by decide +kernel)
theorem dX11_forged_107 : decode cX11_forged 107 = .ok (.bipush 10, 2) := dk_16 (fdB_of (k := 96) tX11_forgedf_6 11 16 rfl) (fdB_of (k := 96) tX11_forgedf_6 12 10 rfl) (by decide +kernel)
theorem dX11_forged_109 : decode cX11_forged 109 = .ok (.iload 4, 2) := dk_21 (fdB_of (k := 96) tX11_forgedf_6 13 21 rfl) (fdB_of (k := 96) tX11_forgedf_6 14 4 rfl)
theorem dX11_forged_111 : decode cX11_forged 111 = .ok (.imul, 1) := dk_104 (fdB_of (k := 96) tX11_forgedf_6 15 104 rfl)
theorem dX11_forged_112 : decode cX11_forged 112 = .ok (.iload 5, 2) := dk_21 (fdB_of (k := 112) tX11_forgedf_7 0 21 rfl) (fdB_of (k := 112) tX11_forgedf_7 1 5 rfl)
theorem dX11_forged_114 : decode cX11_forged 114 = .ok (.iadd, 1) := dk_96 (fdB_of (k := 112) tX11_forgedf_7 2 96 rfl)
theorem dX11_forged_115 : decode cX11_forged 115 = .ok (.ireturn, 1) := dk_172 (fdB_of (k := 112) tX11_forgedf_7 3 172 rfl)
theorem dX11_forged_116 : decode cX11_forged 116 = .ok (.iinc 5 1, 3) := dk_132 (fdB_of (k := 112) tX11_forgedf_7 4 132 rfl) (fdB_of (k := 112) tX11_forgedf_7 5 5 rfl) (fdB_of (k := 112) tX11_forgedf_7 6 1 rfl) (by decide +kernel)
theorem dX11_forged_119 : decode cX11_forged 119 = .ok (.goto (-41), 3) := dk_167 (fdB_of (k := 112) tX11_forgedf_7 7 167 rfl) (fdB_of (k := 112) tX11_forgedf_7 8 255 rfl) (fdB_of (k := 112) tX11_forgedf_7 9 215 rfl) (by decide +kernel)
theorem dX11_forged_122 : decode cX11_forged 122 = .ok (.iinc 4 1, 3) := dk_132 (fdB_of (k := 112) tX11_forgedf_7 10 132 rfl) (fdB_of (k := 112) tX11_forgedf_7 11 4 rfl) (fdB_of (k := 112) tX11_forgedf_7 12 1 rfl) (by decide +kernel)
theorem dX11_forged_125 : decode cX11_forged 125 = .ok (.goto (-65), 3) := dk_167 (fdB_of (k := 112) tX11_forgedf_7 13 167 rfl) (fdB_of (k := 112) tX11_forgedf_7 14 255 rfl) (fdB_of (k := 112) tX11_forgedf_7 15 191 rfl) (by decide +kernel)
theorem dX11_forged_128 : decode cX11_forged 128 = .ok (.bipush (-9), 2) := dk_16 (fdB_of (k := 128) tX11_forgedf_8 0 16 rfl) (fdB_of (k := 128) tX11_forgedf_8 1 247 rfl) (by decide +kernel)
theorem dX11_forged_130 : decode cX11_forged 130 = .ok (.ireturn, 1) := dk_172 (fdB_of (k := 128) tX11_forgedf_8 2 172 rfl)

theorem k_bpm2 : (Int8.ofInt (-2)).toInt32 = (-2) := by decide
theorem q0_14 : Cond.selects RX11 yX11_isLoosed yX11_isLoosed ∈ TT := tq0 14 rfl rfl
theorem q4_102 : Cond.methodLink RX11 215 yX11_isLoosed ∈ TT := tq4 102 rfl rfl
theorem q4_104 : Cond.instanceMethod yX11_isLoosed ∈ TT := tq4 104 rfl rfl
theorem q4_105 : Cond.code yX11_isLoosed cX11_isLoosed 6 (some .boolean) ∈ TT := tq4 105 rfl rfl
theorem lk_RX11_215 : vlk RX11 215 yX11_isLoosed cX11_isLoosed 6 (some .boolean) 5 := ⟨List.forall_mem_cons.mpr ⟨q4_102, List.forall_mem_cons.mpr ⟨q4_104, List.forall_mem_cons.mpr ⟨q0_14, List.forall_mem_cons.mpr ⟨q1_1, fun _ h => absurd h List.not_mem_nil⟩⟩⟩⟩, q4_105, by decide, by decide, by decide +kernel⟩
def F_X11_forged_b78 (s_o : S11) (s_o_told : S7) (s_o_told_forms : S1) (s_o_told_paper : S4) (s_o_told_stock : S4) (s_o_told_words : S10) (x1 : Int32) (x2 : Int32) (x3 : Int32) (K60 : Int32 → S4 → S9 → Option (Int32 × S4 × S9)) : Nat → Int32 → Int32 → S4 → S9 → Option (Int32 × S4 × S9)
  | 0, _, _, _, _ => none
  | n + 1, v4, v5, zs_o_trial, zs_o_verdict => (F_X4_size s_o_told_stock).bind fun q_1 => (if q_1 ≤ v5 then nm (v4 + 1) fun v4_2 => K60 v4_2 zs_o_trial zs_o_verdict else (F_X11_isLoosed s_o s_o_told zs_o_trial zs_o_verdict s_o_told_forms s_o_told_paper s_o_told_stock s_o_told_words x1 x2 x3 v4 v5).bind fun q_3 => (if q_3.1 = 0 then nm (v5 + 1) fun v5_4 => (F_X11_forged_b78 s_o s_o_told s_o_told_forms s_o_told_paper s_o_told_stock s_o_told_words x1 x2 x3 K60 n) v4 v5_4 q_3.2.1 q_3.2.2 else some (((10 * v4) + v5), q_3.2.1, q_3.2.2)))
def F_X11_forged_b60 (s_o : S11) (s_o_told : S7) (s_o_told_forms : S1) (s_o_told_paper : S4) (s_o_told_stock : S4) (s_o_told_words : S10) (x1 : Int32) (x2 : Int32) (x3 : Int32) : Nat → Int32 → S4 → S9 → Option (Int32 × S4 × S9)
  | 0, _, _, _ => none
  | n + 1, v4, zs_o_trial, zs_o_verdict => (F_X4_size s_o_told_paper).bind fun q_5 => (if q_5 < v4 then some ((-9), zs_o_trial, zs_o_verdict) else nm 0 fun v5_6 => F_X11_forged_b78 s_o s_o_told s_o_told_forms s_o_told_paper s_o_told_stock s_o_told_words x1 x2 x3 (F_X11_forged_b60 s_o s_o_told s_o_told_forms s_o_told_paper s_o_told_stock s_o_told_words x1 x2 x3 n) fu v4 v5_6 zs_o_trial zs_o_verdict)
def F_X11_forged (s_o : S11) (s_o_told : S7) (s_o_trial : S4) (s_o_verdict : S9) (s_o_told_forms : S1) (s_o_told_paper : S4) (s_o_told_stock : S4) (s_o_told_words : S10) (x1 : Int32) (x2 : Int32) (x3 : Int32) : Option (Int32 × S4 × S9) := (F_X11_isNoView s_o s_o_told s_o_told_forms x1 x2).bind fun q_7 => (if q_7 = 0 then (F_X4_has s_o_told_paper x3).bind fun q_8 => (if q_8 = 0 then some ((-1), s_o_trial, s_o_verdict) else (F_X11_view s_o s_o_told s_o_verdict s_o_told_forms s_o_told_paper s_o_told_words x1 x2).bind fun q_9 => (F_X9_binds q_9 x3).bind fun q_10 => (if q_10 = 0 then some ((-2), s_o_trial, q_9) else (F_X4_isFull s_o_told_paper).bind fun q_11 => (if q_11 = 0 then nm 0 fun v4_12 => F_X11_forged_b60 s_o s_o_told s_o_told_forms s_o_told_paper s_o_told_stock s_o_told_words x1 x2 x3 fu v4_12 s_o_trial q_9 else some ((-3), s_o_trial, q_9)))) else some ((-1), s_o_trial, s_o_verdict))
def w_X11_forged (o o_told o_trial o_verdict o_told_forms o_told_paper o_told_stock o_told_words o_text o_mending o_guess o_choice o_firstImage o_secondImage o_spare : Nat → Nat) (cB cI cJ cZ : ClassId) (s_o : S11) (s_o_told : S7) (s_o_trial : S4) (s_o_verdict : S9) (s_o_told_forms : S1) (s_o_told_paper : S4) (s_o_told_stock : S4) (s_o_told_words : S10) (rf_o_told : Value) (rf_o_spare : Value) : va_W := List.flatten [(gX11 o cB cI cJ cZ (o_text 0) (o_verdict 0) (o_trial 0) (o_mending 0) (o_guess 0) (o_choice 0) (o_firstImage 0) (o_secondImage 0) rf_o_told rf_o_spare s_o), (gX7 o_told cB cI cJ cZ (o_told_words 0) (o_told_forms 0) (o_told_paper 0) (o_told_stock 0) s_o_told), (gX4 o_trial cB cI cJ cZ s_o_trial), (gX9 o_verdict cB cI cJ cZ s_o_verdict), (gX1 o_told_forms cB cI cJ cZ s_o_told_forms), (gX4 o_told_paper cB cI cJ cZ s_o_told_paper), (gX4 o_told_stock cB cI cJ cZ s_o_told_stock), (gX10 o_told_words cB cI cJ cZ s_o_told_words)]
abbrev rm_X11_forged : Room := { frames := 5, cells := 0, slots := 0, locals := 119 }
set_option maxHeartbeats 4000000 in
set_option maxRecDepth 100000 in
theorem c_X11_forged (l : Launch) (D : gG) (cB cI cJ cZ : ClassId) (o o_told o_trial o_verdict o_told_forms o_told_paper o_told_stock o_told_words o_text o_mending o_guess o_choice o_firstImage o_secondImage o_spare : Nat → Nat) (s_o : S11) (s_o_told : S7) (s_o_trial : S4) (s_o_verdict : S9) (s_o_told_forms : S1) (s_o_told_paper : S4) (s_o_told_stock : S4) (s_o_told_words : S10) (x1 : Int32) (x2 : Int32) (x3 : Int32) (r : Int32 × S4 × S9) (hf : F_X11_forged s_o s_o_told s_o_trial s_o_verdict s_o_told_forms s_o_told_paper s_o_told_stock s_o_told_words x1 x2 x3 = some r) : gM l D (tyL cB cI cJ cZ) yX11_forged cX11_forged 6 (some .int) rm_X11_forged [.ref (o 0), .int x1, .int x2, .int x3] (w_X11_forged o o_told o_trial o_verdict o_told_forms o_told_paper o_told_stock o_told_words o_text o_mending o_guess o_choice o_firstImage o_secondImage o_spare cB cI cJ cZ s_o s_o_told s_o_trial s_o_verdict s_o_told_forms s_o_told_paper s_o_told_stock s_o_told_words (.ref (o_told 0)) (.ref (o_spare 0))) (some (.int r.1)) (w_X11_forged o o_told o_trial o_verdict o_told_forms o_told_paper o_told_stock o_told_words o_text o_mending o_guess o_choice o_firstImage o_secondImage o_spare cB cI cJ cZ s_o s_o_told r.2.1 r.2.2 s_o_told_forms s_o_told_paper s_o_told_stock s_o_told_words (.ref (o_told 0)) (.ref (o_spare 0))) := by
  refine met_of (by decide) (Nat.le_of_ble_eq_true rfl) ?_
  intro p e s m args below meth c A cx hr hA
  show gW p l e rm_X11_forged s m args below meth c D A 6 _ 0 0 _ [(0, .ref (o 0)), (1, .int x1), (2, .int x2), (3, .int x3)] 0 []
  have h78 : ∀ (K60 : Int32 → S4 → S9 → Option (Int32 × S4 × S9)), (∀ (v4 : Int32) (zs_o_trial : S4) (zs_o_verdict : S9), K60 v4 zs_o_trial zs_o_verdict = some r → gW p l e rm_X11_forged s m args below meth c D A 6 (MQ below (QM D (tyL cB cI cJ cZ) (some (.int r.1)) (w_X11_forged o o_told o_trial o_verdict o_told_forms o_told_paper o_told_stock o_told_words o_text o_mending o_guess o_choice o_firstImage o_secondImage o_spare cB cI cJ cZ s_o s_o_told s_o_trial s_o_verdict s_o_told_forms s_o_told_paper s_o_told_stock s_o_told_words (.ref (o_told 0)) (.ref (o_spare 0))) (w_X11_forged o o_told o_trial o_verdict o_told_forms o_told_paper o_told_stock o_told_words o_text o_mending o_guess o_choice o_firstImage o_secondImage o_spare cB cI cJ cZ s_o s_o_told r.2.1 r.2.2 s_o_told_forms s_o_told_paper s_o_told_stock s_o_told_words (.ref (o_told 0)) (.ref (o_spare 0))) s.heap.size) args s 0 0 A) 0 0 (w_X11_forged o o_told o_trial o_verdict o_told_forms o_told_paper o_told_stock o_told_words o_text o_mending o_guess o_choice o_firstImage o_secondImage o_spare cB cI cJ cZ s_o s_o_told zs_o_trial zs_o_verdict s_o_told_forms s_o_told_paper s_o_told_stock s_o_told_words (.ref (o_told 0)) (.ref (o_spare 0))) [(0, .ref (o 0)), (1, .int x1), (2, .int x2), (3, .int x3), (4, .int v4)] 60 []) → ∀ (n : Nat) (v4 : Int32) (v5 : Int32) (zs_o_trial : S4) (zs_o_verdict : S9), F_X11_forged_b78 s_o s_o_told s_o_told_forms s_o_told_paper s_o_told_stock s_o_told_words x1 x2 x3 K60 n v4 v5 zs_o_trial zs_o_verdict = some r → gW p l e rm_X11_forged s m args below meth c D A 6 (MQ below (QM D (tyL cB cI cJ cZ) (some (.int r.1)) (w_X11_forged o o_told o_trial o_verdict o_told_forms o_told_paper o_told_stock o_told_words o_text o_mending o_guess o_choice o_firstImage o_secondImage o_spare cB cI cJ cZ s_o s_o_told s_o_trial s_o_verdict s_o_told_forms s_o_told_paper s_o_told_stock s_o_told_words (.ref (o_told 0)) (.ref (o_spare 0))) (w_X11_forged o o_told o_trial o_verdict o_told_forms o_told_paper o_told_stock o_told_words o_text o_mending o_guess o_choice o_firstImage o_secondImage o_spare cB cI cJ cZ s_o s_o_told r.2.1 r.2.2 s_o_told_forms s_o_told_paper s_o_told_stock s_o_told_words (.ref (o_told 0)) (.ref (o_spare 0))) s.heap.size) args s 0 0 A) 0 0 (w_X11_forged o o_told o_trial o_verdict o_told_forms o_told_paper o_told_stock o_told_words o_text o_mending o_guess o_choice o_firstImage o_secondImage o_spare cB cI cJ cZ s_o s_o_told zs_o_trial zs_o_verdict s_o_told_forms s_o_told_paper s_o_told_stock s_o_told_words (.ref (o_told 0)) (.ref (o_spare 0))) [(0, .ref (o 0)), (1, .int x1), (2, .int x2), (3, .int x3), (4, .int v4), (5, .int v5)] 78 [] := by
    intro K60 kh60 n
    induction n with
    | zero => intro v4 v5 zs_o_trial zs_o_verdict hf; rw [F_X11_forged_b78] at hf; cases hf
    | succ n ih =>
      intro v4 v5 zs_o_trial zs_o_verdict hf
      rw [F_X11_forged_b78] at hf
      refine g_il cx 5 dX11_forged_78 rfl ?_
      refine g_aln cx 0 dX11_forged_80 rfl ?_
      refine fg_RX11_62 cx 0 rfl rfl dX11_forged_81 ?_
      refine fg_RX11_133 cx 1 rfl rfl dX11_forged_84 ?_
      refine ob hf (fun q_1 hq_1 hf => ?_)
      refine g_callVGiR cx lk_RX11_136 (c_X4_size l D cB cI cJ cZ o_told_stock s_o_told_stock q_1 hq_1) rfl [6] rfl rfl (ci := 4) (q1 := 0) rfl rfl rfl (Nat.le_of_ble_eq_true rfl) ⟨rfl, rfl, Nat.le_of_ble_eq_true rfl, Nat.le_of_ble_eq_true rfl⟩ dX11_forged_87 ?_
      refine g_ic_ge (tgt := 122) cx hf dX11_forged_90 rfl (fun hf => ?_) (fun hf => ?_)
      · refine g_inc cx (L2 := fun v4_2 => [(4, .int v4_2), (0, .ref (o 0)), (1, .int x1), (2, .int x2), (3, .int x3), (5, .int v5)]) 4 hf dX11_forged_122 rfl (k_inc1 _) (Nat.le_of_ble_eq_true rfl) (fun _ => rfl) (fun v4_2 hf => ?_)
        refine g_goto (tgt := 60) cx dX11_forged_125 rfl ?_
        refine g_sub [1, 2, 3, 4, 0] rfl ?_
        exact kh60 _ _ _ hf
      · refine g_aln cx 0 dX11_forged_93 rfl ?_
        refine g_iln cx 1 dX11_forged_94 rfl ?_
        refine g_iln cx 2 dX11_forged_95 rfl ?_
        refine g_iln cx 3 dX11_forged_96 rfl ?_
        refine g_il cx 4 dX11_forged_97 rfl ?_
        refine g_il cx 5 dX11_forged_99 rfl ?_
        refine ob hf (fun q_3 hq_3 hf => ?_)
        refine g_callVGi (gs' := [(gX11 o cB cI cJ cZ (o_text 0) (o_verdict 0) (o_trial 0) (o_mending 0) (o_guess 0) (o_choice 0) (o_firstImage 0) (o_secondImage 0) (.ref (o_told 0)) (.ref (o_spare 0)) s_o), (gX7 o_told cB cI cJ cZ (o_told_words 0) (o_told_forms 0) (o_told_paper 0) (o_told_stock 0) s_o_told), (gX4 o_trial cB cI cJ cZ q_3.2.1), (gX9 o_verdict cB cI cJ cZ q_3.2.2), (gX1 o_told_forms cB cI cJ cZ s_o_told_forms), (gX4 o_told_paper cB cI cJ cZ s_o_told_paper), (gX4 o_told_stock cB cI cJ cZ s_o_told_stock), (gX10 o_told_words cB cI cJ cZ s_o_told_words)]) cx lk_RX11_215 (c_X11_isLoosed l D cB cI cJ cZ o o_told o_trial o_verdict o_told_forms o_told_paper o_told_stock o_told_words o_text o_mending o_guess o_choice o_firstImage o_secondImage o_spare s_o s_o_told zs_o_trial zs_o_verdict s_o_told_forms s_o_told_paper s_o_told_stock s_o_told_words x1 x2 x3 v4 v5 q_3 hq_3) rfl [0, 1, 2, 3, 4, 5, 6, 7] rfl rfl rfl rfl (ci := 9) (q1 := 0) rfl rfl rfl (Nat.le_of_ble_eq_true rfl) ⟨rfl, rfl, Nat.le_of_ble_eq_true rfl, Nat.le_of_ble_eq_true rfl⟩ dX11_forged_101 ?_
        refine g_if_eq (tgt := 116) cx hf dX11_forged_104 rfl (fun hf => ?_) (fun hf => ?_)
        · refine g_inc cx (L2 := fun v5_4 => [(5, .int v5_4), (0, .ref (o 0)), (1, .int x1), (2, .int x2), (3, .int x3), (4, .int v4)]) 5 hf dX11_forged_116 rfl (k_inc1 _) (Nat.le_of_ble_eq_true rfl) (fun _ => rfl) (fun v5_4 hf => ?_)
          refine g_goto (tgt := 78) cx dX11_forged_119 rfl ?_
          refine g_sub [1, 2, 3, 4, 5, 0] rfl ?_
          exact ih _ _ _ _ hf
        · refine g_bp cx dX11_forged_107 k_bp10 ?_
          refine g_il cx 4 dX11_forged_109 rfl ?_
          refine g_imul cx dX11_forged_111 ?_
          refine g_il cx 5 dX11_forged_112 rfl ?_
          refine g_iadd cx dX11_forged_114 ?_
          exact g_iret (ovf := fun (r : Int32 × S4 × S9) => (some (.int r.1))) (wf := fun (r : Int32 × S4 × S9) => (w_X11_forged o o_told o_trial o_verdict o_told_forms o_told_paper o_told_stock o_told_words o_text o_mending o_guess o_choice o_firstImage o_secondImage o_spare cB cI cJ cZ s_o s_o_told r.2.1 r.2.2 s_o_told_forms s_o_told_paper s_o_told_stock s_o_told_words (.ref (o_told 0)) (.ref (o_spare 0)))) cx hA hr hf rfl rfl dX11_forged_115
  have h60 : ∀ (n : Nat) (v4 : Int32) (zs_o_trial : S4) (zs_o_verdict : S9), F_X11_forged_b60 s_o s_o_told s_o_told_forms s_o_told_paper s_o_told_stock s_o_told_words x1 x2 x3 n v4 zs_o_trial zs_o_verdict = some r → gW p l e rm_X11_forged s m args below meth c D A 6 (MQ below (QM D (tyL cB cI cJ cZ) (some (.int r.1)) (w_X11_forged o o_told o_trial o_verdict o_told_forms o_told_paper o_told_stock o_told_words o_text o_mending o_guess o_choice o_firstImage o_secondImage o_spare cB cI cJ cZ s_o s_o_told s_o_trial s_o_verdict s_o_told_forms s_o_told_paper s_o_told_stock s_o_told_words (.ref (o_told 0)) (.ref (o_spare 0))) (w_X11_forged o o_told o_trial o_verdict o_told_forms o_told_paper o_told_stock o_told_words o_text o_mending o_guess o_choice o_firstImage o_secondImage o_spare cB cI cJ cZ s_o s_o_told r.2.1 r.2.2 s_o_told_forms s_o_told_paper s_o_told_stock s_o_told_words (.ref (o_told 0)) (.ref (o_spare 0))) s.heap.size) args s 0 0 A) 0 0 (w_X11_forged o o_told o_trial o_verdict o_told_forms o_told_paper o_told_stock o_told_words o_text o_mending o_guess o_choice o_firstImage o_secondImage o_spare cB cI cJ cZ s_o s_o_told zs_o_trial zs_o_verdict s_o_told_forms s_o_told_paper s_o_told_stock s_o_told_words (.ref (o_told 0)) (.ref (o_spare 0))) [(0, .ref (o 0)), (1, .int x1), (2, .int x2), (3, .int x3), (4, .int v4)] 60 [] := by
    intro n
    induction n with
    | zero => intro v4 zs_o_trial zs_o_verdict hf; rw [F_X11_forged_b60] at hf; cases hf
    | succ n ih =>
      intro v4 zs_o_trial zs_o_verdict hf
      rw [F_X11_forged_b60] at hf
      refine g_il cx 4 dX11_forged_60 rfl ?_
      refine g_aln cx 0 dX11_forged_62 rfl ?_
      refine fg_RX11_62 cx 0 rfl rfl dX11_forged_63 ?_
      refine fg_RX11_127 cx 1 rfl rfl dX11_forged_66 ?_
      refine ob hf (fun q_5 hq_5 hf => ?_)
      refine g_callVGiR cx lk_RX11_136 (c_X4_size l D cB cI cJ cZ o_told_paper s_o_told_paper q_5 hq_5) rfl [5] rfl rfl (ci := 4) (q1 := 0) rfl rfl rfl (Nat.le_of_ble_eq_true rfl) ⟨rfl, rfl, Nat.le_of_ble_eq_true rfl, Nat.le_of_ble_eq_true rfl⟩ dX11_forged_69 ?_
      refine g_ic_gt (tgt := 128) cx hf dX11_forged_72 rfl (fun hf => ?_) (fun hf => ?_)
      · refine g_bp cx dX11_forged_128 k_bpm9 ?_
        exact g_iret (ovf := fun (r : Int32 × S4 × S9) => (some (.int r.1))) (wf := fun (r : Int32 × S4 × S9) => (w_X11_forged o o_told o_trial o_verdict o_told_forms o_told_paper o_told_stock o_told_words o_text o_mending o_guess o_choice o_firstImage o_secondImage o_spare cB cI cJ cZ s_o s_o_told r.2.1 r.2.2 s_o_told_forms s_o_told_paper s_o_told_stock s_o_told_words (.ref (o_told 0)) (.ref (o_spare 0)))) cx hA hr hf rfl rfl dX11_forged_130
      · refine g_ic cx dX11_forged_75 k_ic0 ?_
        refine g_is cx (L2 := fun v5_6 => [(5, .int v5_6), (0, .ref (o 0)), (1, .int x1), (2, .int x2), (3, .int x3), (4, .int v4)]) hf dX11_forged_76 (Nat.le_of_ble_eq_true rfl) (fun _ => rfl) (fun v5_6 hf => ?_)
        refine g_sub [1, 2, 3, 4, 5, 0] rfl ?_
        exact h78 _ ih fu _ _ _ _ hf
  rw [F_X11_forged] at hf
  refine g_aln cx 0 dX11_forged_0 rfl ?_
  refine g_iln cx 1 dX11_forged_1 rfl ?_
  refine g_iln cx 2 dX11_forged_2 rfl ?_
  refine ob hf (fun q_7 hq_7 hf => ?_)
  refine g_callVGiR cx lk_RX11_157 (c_X11_isNoView l D cB cI cJ cZ o o_told o_told_forms o_text o_verdict o_trial o_mending o_guess o_choice o_firstImage o_secondImage o_spare o_told_words o_told_paper o_told_stock s_o s_o_told s_o_told_forms x1 x2 q_7 hq_7) rfl [0, 1, 4] rfl rfl (ci := 9) (q1 := 0) rfl rfl rfl (Nat.le_of_ble_eq_true rfl) ⟨rfl, rfl, Nat.le_of_ble_eq_true rfl, Nat.le_of_ble_eq_true rfl⟩ dX11_forged_3 ?_
  refine g_if_ne (tgt := 23) cx hf dX11_forged_6 rfl (fun hf => ?_) (fun hf => ?_)
  · refine g_ic cx dX11_forged_23 k_icm1 ?_
    exact g_iret (ovf := fun (r : Int32 × S4 × S9) => (some (.int r.1))) (wf := fun (r : Int32 × S4 × S9) => (w_X11_forged o o_told o_trial o_verdict o_told_forms o_told_paper o_told_stock o_told_words o_text o_mending o_guess o_choice o_firstImage o_secondImage o_spare cB cI cJ cZ s_o s_o_told r.2.1 r.2.2 s_o_told_forms s_o_told_paper s_o_told_stock s_o_told_words (.ref (o_told 0)) (.ref (o_spare 0)))) cx hA hr hf rfl rfl dX11_forged_24
  · refine g_aln cx 0 dX11_forged_9 rfl ?_
    refine fg_RX11_62 cx 0 rfl rfl dX11_forged_10 ?_
    refine fg_RX11_127 cx 1 rfl rfl dX11_forged_13 ?_
    refine g_iln cx 3 dX11_forged_16 rfl ?_
    refine ob hf (fun q_8 hq_8 hf => ?_)
    refine g_callVGiR cx lk_RX11_147 (c_X4_has l D cB cI cJ cZ o_told_paper s_o_told_paper x3 q_8 hq_8) rfl [5] rfl rfl (ci := 4) (q1 := 0) rfl rfl rfl (Nat.le_of_ble_eq_true rfl) ⟨rfl, rfl, Nat.le_of_ble_eq_true rfl, Nat.le_of_ble_eq_true rfl⟩ dX11_forged_17 ?_
    refine g_if_ne (tgt := 25) cx hf dX11_forged_20 rfl (fun hf => ?_) (fun hf => ?_)
    · refine g_aln cx 0 dX11_forged_25 rfl ?_
      refine g_iln cx 1 dX11_forged_26 rfl ?_
      refine g_iln cx 2 dX11_forged_27 rfl ?_
      refine ob hf (fun q_9 hq_9 hf => ?_)
      refine g_callVGr (gs' := [(gX11 o cB cI cJ cZ (o_text 0) (o_verdict 0) (o_trial 0) (o_mending 0) (o_guess 0) (o_choice 0) (o_firstImage 0) (o_secondImage 0) (.ref (o_told 0)) (.ref (o_spare 0)) s_o), (gX7 o_told cB cI cJ cZ (o_told_words 0) (o_told_forms 0) (o_told_paper 0) (o_told_stock 0) s_o_told), (gX4 o_trial cB cI cJ cZ s_o_trial), (gX9 o_verdict cB cI cJ cZ q_9), (gX1 o_told_forms cB cI cJ cZ s_o_told_forms), (gX4 o_told_paper cB cI cJ cZ s_o_told_paper), (gX4 o_told_stock cB cI cJ cZ s_o_told_stock), (gX10 o_told_words cB cI cJ cZ s_o_told_words)]) cx lk_RX11_161 (c_X11_view l D cB cI cJ cZ o o_told o_verdict o_told_forms o_told_paper o_told_words o_text o_trial o_mending o_guess o_choice o_firstImage o_secondImage o_spare o_told_stock s_o s_o_told s_o_verdict s_o_told_forms s_o_told_paper s_o_told_words x1 x2 q_9 hq_9) rfl [0, 1, 3, 4, 5, 7] rfl rfl rfl rfl (ci := 9) (q1 := 0) rfl rfl rfl (Nat.le_of_ble_eq_true rfl) ⟨rfl, rfl, Nat.le_of_ble_eq_true rfl, Nat.le_of_ble_eq_true rfl⟩ dX11_forged_28 ?_
      refine g_iln cx 3 dX11_forged_31 rfl ?_
      refine ob hf (fun q_10 hq_10 hf => ?_)
      refine g_callVGiR cx lk_RX11_171 (c_X9_binds l D cB cI cJ cZ o_verdict q_9 x3 q_10 hq_10) rfl [3] rfl rfl (ci := 7) (q1 := 0) rfl rfl rfl (Nat.le_of_ble_eq_true rfl) ⟨rfl, rfl, Nat.le_of_ble_eq_true rfl, Nat.le_of_ble_eq_true rfl⟩ dX11_forged_32 ?_
      refine g_if_ne (tgt := 41) cx hf dX11_forged_35 rfl (fun hf => ?_) (fun hf => ?_)
      · refine g_aln cx 0 dX11_forged_41 rfl ?_
        refine fg_RX11_62 cx 0 rfl rfl dX11_forged_42 ?_
        refine fg_RX11_127 cx 1 rfl rfl dX11_forged_45 ?_
        refine ob hf (fun q_11 hq_11 hf => ?_)
        refine g_callVGiR cx lk_RX11_139 (c_X4_isFull l D cB cI cJ cZ o_told_paper s_o_told_paper q_11 hq_11) rfl [5] rfl rfl (ci := 4) (q1 := 0) rfl rfl rfl (Nat.le_of_ble_eq_true rfl) ⟨rfl, rfl, Nat.le_of_ble_eq_true rfl, Nat.le_of_ble_eq_true rfl⟩ dX11_forged_48 ?_
        refine g_if_eq (tgt := 57) cx hf dX11_forged_51 rfl (fun hf => ?_) (fun hf => ?_)
        · refine g_ic cx dX11_forged_57 k_ic0 ?_
          refine g_is cx (L2 := fun v4_12 => [(4, .int v4_12), (0, .ref (o 0)), (1, .int x1), (2, .int x2), (3, .int x3)]) hf dX11_forged_58 (Nat.le_of_ble_eq_true rfl) (fun _ => rfl) (fun v4_12 hf => ?_)
          refine g_sub [1, 2, 3, 4, 0] rfl ?_
          exact h60 fu _ _ _ hf
        · refine g_bp cx dX11_forged_54 k_bpm3 ?_
          exact g_iret (ovf := fun (r : Int32 × S4 × S9) => (some (.int r.1))) (wf := fun (r : Int32 × S4 × S9) => (w_X11_forged o o_told o_trial o_verdict o_told_forms o_told_paper o_told_stock o_told_words o_text o_mending o_guess o_choice o_firstImage o_secondImage o_spare cB cI cJ cZ s_o s_o_told r.2.1 r.2.2 s_o_told_forms s_o_told_paper s_o_told_stock s_o_told_words (.ref (o_told 0)) (.ref (o_spare 0)))) cx hA hr hf rfl rfl dX11_forged_56
      · refine g_bp cx dX11_forged_38 k_bpm2 ?_
        exact g_iret (ovf := fun (r : Int32 × S4 × S9) => (some (.int r.1))) (wf := fun (r : Int32 × S4 × S9) => (w_X11_forged o o_told o_trial o_verdict o_told_forms o_told_paper o_told_stock o_told_words o_text o_mending o_guess o_choice o_firstImage o_secondImage o_spare cB cI cJ cZ s_o s_o_told r.2.1 r.2.2 s_o_told_forms s_o_told_paper s_o_told_stock s_o_told_words (.ref (o_told 0)) (.ref (o_spare 0)))) cx hA hr hf rfl rfl dX11_forged_40
    · refine g_ic cx dX11_forged_23 k_icm1 ?_
      exact g_iret (ovf := fun (r : Int32 × S4 × S9) => (some (.int r.1))) (wf := fun (r : Int32 × S4 × S9) => (w_X11_forged o o_told o_trial o_verdict o_told_forms o_told_paper o_told_stock o_told_words o_text o_mending o_guess o_choice o_firstImage o_secondImage o_spare cB cI cJ cZ s_o s_o_told r.2.1 r.2.2 s_o_told_forms s_o_told_paper s_o_told_stock s_o_told_words (.ref (o_told 0)) (.ref (o_spare 0)))) cx hA hr hf rfl rfl dX11_forged_24
theorem dX11_burnt_0 : decode cX11_burnt 0 = .ok (.aload_n 0, 1) := by decide +kernel
theorem dX11_burnt_1 : decode cX11_burnt 1 = .ok (.iload_n 1, 1) := by decide +kernel
theorem dX11_burnt_2 : decode cX11_burnt 2 = .ok (.iload_n 2, 1) := by decide +kernel
theorem dX11_burnt_3 : decode cX11_burnt 3 = .ok (.invokevirtual 157, 3) := by decide +kernel
theorem dX11_burnt_6 : decode cX11_burnt 6 = .ok (.ifCond .ne 12, 3) := by decide +kernel
theorem dX11_burnt_9 : decode cX11_burnt 9 = .ok (.aload_n 0, 1) := by decide +kernel
theorem dX11_burnt_10 : decode cX11_burnt 10 = .ok (.iload 4, 2) := by decide +kernel
theorem dX11_burnt_12 : decode cX11_burnt 12 = .ok (.invokevirtual 196, 3) := by decide +kernel
theorem dX11_burnt_15 : decode cX11_burnt 15 = .ok (.ifCond .eq 7, 3) := by decide +kernel
theorem dX11_burnt_18 : decode cX11_burnt 18 = .ok (.ldc2_w 219, 3) := by decide +kernel
theorem dX11_burnt_21 : decode cX11_burnt 21 = .ok (.lreturn, 1) := by decide +kernel
theorem dX11_burnt_22 : decode cX11_burnt 22 = .ok (.aload_n 0, 1) := by decide +kernel
theorem dX11_burnt_23 : decode cX11_burnt 23 = .ok (.getfield 42, 3) := by decide +kernel
theorem dX11_burnt_26 : decode cX11_burnt 26 = .ok (.aload_n 0, 1) := by decide +kernel
theorem dX11_burnt_27 : decode cX11_burnt 27 = .ok (.getfield 62, 3) := by decide +kernel
theorem dX11_burnt_30 : decode cX11_burnt 30 = .ok (.iload_n 1, 1) := by decide +kernel
theorem dX11_burnt_31 : decode cX11_burnt 31 = .ok (.iload_n 2, 1) := by decide +kernel
theorem dX11_burnt_32 : decode cX11_burnt 32 = .ok (.iload_n 3, 1) := by decide +kernel
theorem dX11_burnt_33 : decode cX11_burnt 33 = .ok (.invokevirtual 221, 3) := by decide +kernel
theorem dX11_burnt_36 : decode cX11_burnt 36 = .ok (.lstore 5, 2) := by decide +kernel
theorem dX11_burnt_38 : decode cX11_burnt 38 = .ok (.iload 4, 2) := by decide +kernel
theorem dX11_burnt_40 : decode cX11_burnt 40 = .ok (.ifCond .ge 6, 3) := by decide +kernel
theorem dX11_burnt_43 : decode cX11_burnt 43 = .ok (.lload 5, 2) := by decide +kernel
theorem dX11_burnt_45 : decode cX11_burnt 45 = .ok (.lreturn, 1) := by decide +kernel
theorem dX11_burnt_46 : decode cX11_burnt 46 = .ok (.lload 5, 2) := by decide +kernel
theorem dX11_burnt_48 : decode cX11_burnt 48 = .ok (.lconst 0, 1) := by decide +kernel
theorem dX11_burnt_49 : decode cX11_burnt 49 = .ok (.lcmp, 1) := by decide +kernel
theorem dX11_burnt_50 : decode cX11_burnt 50 = .ok (.ifCond .le 22, 3) := by decide +kernel
theorem dX11_burnt_53 : decode cX11_burnt 53 = .ok (.aload_n 0, 1) := by decide +kernel
theorem dX11_burnt_54 : decode cX11_burnt 54 = .ok (.getfield 42, 3) := by decide +kernel
theorem dX11_burnt_57 : decode cX11_burnt 57 = .ok (.aload_n 0, 1) := by decide +kernel
theorem dX11_burnt_58 : decode cX11_burnt 58 = .ok (.getfield 62, 3) := by decide +kernel
theorem dX11_burnt_61 : decode cX11_burnt 61 = .ok (.iload_n 1, 1) := by decide +kernel
theorem dX11_burnt_62 : decode cX11_burnt 62 = .ok (.iload_n 2, 1) := by decide +kernel
theorem dX11_burnt_63 : decode cX11_burnt 63 = .ok (.iload 4, 2) := by decide +kernel
theorem dX11_burnt_65 : decode cX11_burnt 65 = .ok (.invokevirtual 225, 3) := by decide +kernel
theorem dX11_burnt_68 : decode cX11_burnt 68 = .ok (.i2l, 1) := by decide +kernel
theorem dX11_burnt_69 : decode cX11_burnt 69 = .ok (.goto 4, 3) := by decide +kernel
theorem dX11_burnt_72 : decode cX11_burnt 72 = .ok (.lconst 0, 1) := by decide +kernel
theorem dX11_burnt_73 : decode cX11_burnt 73 = .ok (.lreturn, 1) := by decide +kernel
theorem q1_236 : Cond.fieldLink RX11 42 "RhymeLaw" "guess" "LRhymeLaw$Guess;" ∈ TT := tq1 236 rfl rfl
theorem q4_117 : Cond.constantLong RX11 219 (-1) ∈ TT := tq4 117 rfl rfl
theorem q4_118 : Cond.methodLink RX11 221 yX2_waysOf ∈ TT := tq4 118 rfl rfl
theorem q4_119 : Cond.instanceMethod yX2_waysOf ∈ TT := tq4 119 rfl rfl
theorem q4_120 : Cond.selects RX2 yX2_waysOf yX2_waysOf ∈ TT := tq4 120 rfl rfl
theorem q4_121 : Cond.code yX2_waysOf cX2_waysOf 9 (some .long) ∈ TT := tq4 121 rfl rfl
theorem q4_148 : Cond.methodLink RX11 225 yX2_wordsOf ∈ TT := tq4 148 rfl rfl
theorem q4_149 : Cond.instanceMethod yX2_wordsOf ∈ TT := tq4 149 rfl rfl
theorem q4_150 : Cond.selects RX2 yX2_wordsOf yX2_wordsOf ∈ TT := tq4 150 rfl rfl
theorem q4_151 : Cond.code yX2_wordsOf cX2_wordsOf 9 (some .int) ∈ TT := tq4 151 rfl rfl
theorem fg_RX11_42 {p : Program} {l : Launch} {e : Env} {R : Room} {s : State} {m : MethodId} {args : Array Value} {below : List Frame} {meth : Method} {c : Code} {D : gG} {tys : List (ClassId × FieldType)} {A : Nat → Prop} {nL : Nat} {Q : State → Prop} {cells slots : Nat} {cc : ByteArray} {ws : va_W} {L : List (Nat × Value)} {pc : Nat} {stk : List Value} (cx : gX p s m args meth c cc nL RX11 D tys A) {a : Nat} {fs : List Value} {v : Value} (q0 : Nat) (he : ws[q0]? = some (a, .inr (9, fs))) (hv : fs[4]? = some v) (hd : decode cc pc = .ok (.getfield 42, 3)) (kk : gW p l e R s m args below meth c D A nL Q cells slots ws L (pc + 3) (v :: stk)) : gW p l e R s m args below meth c D A nL Q cells slots ws L pc (.ref a :: stk) :=
  g_get cx (C := RX11) (T := TX11) (N := 12) inT11 rfl 4 (Nat.le_of_ble_eq_true rfl) q1_236 rfl q0 he hv hd kk
theorem lk_RX11_221 : vlk RX11 221 yX2_waysOf cX2_waysOf 9 (some .long) 4 := ⟨List.forall_mem_cons.mpr ⟨q4_118, List.forall_mem_cons.mpr ⟨q4_119, List.forall_mem_cons.mpr ⟨q4_120, List.forall_mem_cons.mpr ⟨q1_7, fun _ h => absurd h List.not_mem_nil⟩⟩⟩⟩, q4_121, by decide, by decide, by decide +kernel⟩
theorem lk_RX11_225 : vlk RX11 225 yX2_wordsOf cX2_wordsOf 9 (some .int) 4 := ⟨List.forall_mem_cons.mpr ⟨q4_148, List.forall_mem_cons.mpr ⟨q4_149, List.forall_mem_cons.mpr ⟨q4_150, List.forall_mem_cons.mpr ⟨q1_7, fun _ h => absurd h List.not_mem_nil⟩⟩⟩⟩, q4_151, by decide, by decide, by decide +kernel⟩
def F_X11_burnt_b18 (s_o : S11) (s_o_told : S7) (s_o_told_forms : S1) (s_o_told_paper : S4) (s_o_told_words : S10) (x1 : Int32) (x2 : Int32) (x3 : Int32) (x4 : Int32) (zs_o_guess : S2) : Option (Int64 × S2) := some ((-1), zs_o_guess)
def F_X11_burnt (s_o : S11) (s_o_guess : S2) (s_o_told : S7) (s_o_told_forms : S1) (s_o_told_paper : S4) (s_o_told_words : S10) (x1 : Int32) (x2 : Int32) (x3 : Int32) (x4 : Int32) : Option (Int64 × S2) := (F_X11_isNoView s_o s_o_told s_o_told_forms x1 x2).bind fun q_1 => (if q_1 = 0 then (F_X11_isNoLineNorAll s_o s_o_told s_o_told_paper x4).bind fun q_2 => (if q_2 = 0 then (F_X2_waysOf s_o_told s_o_guess s_o_told_forms s_o_told_paper s_o_told_words x1 x2 x3).bind fun q_3 => nm q_3.1 fun v5_4 => (if 0 ≤ x4 then (if (lg_cmp v5_4 0) ≤ 0 then some (0, q_3.2) else (F_X2_wordsOf s_o_told q_3.2 s_o_told_forms s_o_told_words x1 x2 x4).bind fun q_5 => some ((Int32.toInt64 q_5.1), q_5.2)) else some (v5_4, q_3.2)) else F_X11_burnt_b18 s_o s_o_told s_o_told_forms s_o_told_paper s_o_told_words x1 x2 x3 x4 s_o_guess) else F_X11_burnt_b18 s_o s_o_told s_o_told_forms s_o_told_paper s_o_told_words x1 x2 x3 x4 s_o_guess)
def w_X11_burnt (o o_guess o_told o_told_forms o_told_paper o_told_words o_text o_verdict o_trial o_mending o_choice o_firstImage o_secondImage o_spare o_told_stock : Nat → Nat) (cB cI cJ cZ : ClassId) (s_o : S11) (s_o_guess : S2) (s_o_told : S7) (s_o_told_forms : S1) (s_o_told_paper : S4) (s_o_told_words : S10) (rf_o_told : Value) (rf_o_spare : Value) : va_W := List.flatten [(gX11 o cB cI cJ cZ (o_text 0) (o_verdict 0) (o_trial 0) (o_mending 0) (o_guess 0) (o_choice 0) (o_firstImage 0) (o_secondImage 0) rf_o_told rf_o_spare s_o), (gX2 o_guess cB cI cJ cZ s_o_guess), (gX7 o_told cB cI cJ cZ (o_told_words 0) (o_told_forms 0) (o_told_paper 0) (o_told_stock 0) s_o_told), (gX1 o_told_forms cB cI cJ cZ s_o_told_forms), (gX4 o_told_paper cB cI cJ cZ s_o_told_paper), (gX10 o_told_words cB cI cJ cZ s_o_told_words)]
abbrev rm_X11_burnt : Room := { frames := 6, cells := 0, slots := 0, locals := 151 }
set_option maxHeartbeats 4000000 in
set_option maxRecDepth 100000 in
theorem c_X11_burnt (l : Launch) (D : gG) (cB cI cJ cZ : ClassId) (o o_guess o_told o_told_forms o_told_paper o_told_words o_text o_verdict o_trial o_mending o_choice o_firstImage o_secondImage o_spare o_told_stock : Nat → Nat) (s_o : S11) (s_o_guess : S2) (s_o_told : S7) (s_o_told_forms : S1) (s_o_told_paper : S4) (s_o_told_words : S10) (x1 : Int32) (x2 : Int32) (x3 : Int32) (x4 : Int32) (r : Int64 × S2) (hf : F_X11_burnt s_o s_o_guess s_o_told s_o_told_forms s_o_told_paper s_o_told_words x1 x2 x3 x4 = some r) : gM l D (tyL cB cI cJ cZ) yX11_burnt cX11_burnt 7 (some .long) rm_X11_burnt [.ref (o 0), .int x1, .int x2, .int x3, .int x4] (w_X11_burnt o o_guess o_told o_told_forms o_told_paper o_told_words o_text o_verdict o_trial o_mending o_choice o_firstImage o_secondImage o_spare o_told_stock cB cI cJ cZ s_o s_o_guess s_o_told s_o_told_forms s_o_told_paper s_o_told_words (.ref (o_told 0)) (.ref (o_spare 0))) (some (.long r.1)) (w_X11_burnt o o_guess o_told o_told_forms o_told_paper o_told_words o_text o_verdict o_trial o_mending o_choice o_firstImage o_secondImage o_spare o_told_stock cB cI cJ cZ s_o r.2 s_o_told s_o_told_forms s_o_told_paper s_o_told_words (.ref (o_told 0)) (.ref (o_spare 0))) := by
  refine met_of (by decide) (Nat.le_of_ble_eq_true rfl) ?_
  intro p e s m args below meth c A cx hr hA
  show gW p l e rm_X11_burnt s m args below meth c D A 7 _ 0 0 _ [(0, .ref (o 0)), (1, .int x1), (2, .int x2), (3, .int x3), (4, .int x4)] 0 []
  have h18 : ∀ (zs_o_guess : S2), F_X11_burnt_b18 s_o s_o_told s_o_told_forms s_o_told_paper s_o_told_words x1 x2 x3 x4 zs_o_guess = some r → gW p l e rm_X11_burnt s m args below meth c D A 7 (MQ below (QM D (tyL cB cI cJ cZ) (some (.long r.1)) (w_X11_burnt o o_guess o_told o_told_forms o_told_paper o_told_words o_text o_verdict o_trial o_mending o_choice o_firstImage o_secondImage o_spare o_told_stock cB cI cJ cZ s_o s_o_guess s_o_told s_o_told_forms s_o_told_paper s_o_told_words (.ref (o_told 0)) (.ref (o_spare 0))) (w_X11_burnt o o_guess o_told o_told_forms o_told_paper o_told_words o_text o_verdict o_trial o_mending o_choice o_firstImage o_secondImage o_spare o_told_stock cB cI cJ cZ s_o r.2 s_o_told s_o_told_forms s_o_told_paper s_o_told_words (.ref (o_told 0)) (.ref (o_spare 0))) s.heap.size) args s 0 0 A) 0 0 (w_X11_burnt o o_guess o_told o_told_forms o_told_paper o_told_words o_text o_verdict o_trial o_mending o_choice o_firstImage o_secondImage o_spare o_told_stock cB cI cJ cZ s_o zs_o_guess s_o_told s_o_told_forms s_o_told_paper s_o_told_words (.ref (o_told 0)) (.ref (o_spare 0))) [] 18 [] := by
    intro zs_o_guess hf
    rw [F_X11_burnt_b18] at hf
    refine g_ldc2 cx q4_117 dX11_burnt_18 ?_
    exact g_lret (ovf := fun (r : Int64 × S2) => (some (.long r.1))) (wf := fun (r : Int64 × S2) => (w_X11_burnt o o_guess o_told o_told_forms o_told_paper o_told_words o_text o_verdict o_trial o_mending o_choice o_firstImage o_secondImage o_spare o_told_stock cB cI cJ cZ s_o r.2 s_o_told s_o_told_forms s_o_told_paper s_o_told_words (.ref (o_told 0)) (.ref (o_spare 0)))) cx hA hr hf rfl rfl dX11_burnt_21
  rw [F_X11_burnt] at hf
  refine g_aln cx 0 dX11_burnt_0 rfl ?_
  refine g_iln cx 1 dX11_burnt_1 rfl ?_
  refine g_iln cx 2 dX11_burnt_2 rfl ?_
  refine ob hf (fun q_1 hq_1 hf => ?_)
  refine g_callVGiR cx lk_RX11_157 (c_X11_isNoView l D cB cI cJ cZ o o_told o_told_forms o_text o_verdict o_trial o_mending o_guess o_choice o_firstImage o_secondImage o_spare o_told_words o_told_paper o_told_stock s_o s_o_told s_o_told_forms x1 x2 q_1 hq_1) rfl [0, 2, 3] rfl rfl (ci := 9) (q1 := 0) rfl rfl rfl (Nat.le_of_ble_eq_true rfl) ⟨rfl, rfl, Nat.le_of_ble_eq_true rfl, Nat.le_of_ble_eq_true rfl⟩ dX11_burnt_3 ?_
  refine g_if_ne (tgt := 18) cx hf dX11_burnt_6 rfl (fun hf => ?_) (fun hf => ?_)
  · refine g_sub [] rfl ?_
    exact h18 _ hf
  · refine g_aln cx 0 dX11_burnt_9 rfl ?_
    refine g_il cx 4 dX11_burnt_10 rfl ?_
    refine ob hf (fun q_2 hq_2 hf => ?_)
    refine g_callVGiR cx lk_RX11_196 (c_X11_isNoLineNorAll l D cB cI cJ cZ o o_told o_told_paper o_text o_verdict o_trial o_mending o_guess o_choice o_firstImage o_secondImage o_spare o_told_words o_told_forms o_told_stock s_o s_o_told s_o_told_paper x4 q_2 hq_2) rfl [0, 2, 4] rfl rfl (ci := 9) (q1 := 0) rfl rfl rfl (Nat.le_of_ble_eq_true rfl) ⟨rfl, rfl, Nat.le_of_ble_eq_true rfl, Nat.le_of_ble_eq_true rfl⟩ dX11_burnt_12 ?_
    refine g_if_eq (tgt := 22) cx hf dX11_burnt_15 rfl (fun hf => ?_) (fun hf => ?_)
    · refine g_aln cx 0 dX11_burnt_22 rfl ?_
      refine fg_RX11_42 cx 0 rfl rfl dX11_burnt_23 ?_
      refine g_aln cx 0 dX11_burnt_26 rfl ?_
      refine fg_RX11_62 cx 0 rfl rfl dX11_burnt_27 ?_
      refine g_iln cx 1 dX11_burnt_30 rfl ?_
      refine g_iln cx 2 dX11_burnt_31 rfl ?_
      refine g_iln cx 3 dX11_burnt_32 rfl ?_
      refine ob hf (fun q_3 hq_3 hf => ?_)
      refine g_callVGl (gs' := [(gX11 o cB cI cJ cZ (o_text 0) (o_verdict 0) (o_trial 0) (o_mending 0) (o_guess 0) (o_choice 0) (o_firstImage 0) (o_secondImage 0) (.ref (o_told 0)) (.ref (o_spare 0)) s_o), (gX2 o_guess cB cI cJ cZ q_3.2), (gX7 o_told cB cI cJ cZ (o_told_words 0) (o_told_forms 0) (o_told_paper 0) (o_told_stock 0) s_o_told), (gX1 o_told_forms cB cI cJ cZ s_o_told_forms), (gX4 o_told_paper cB cI cJ cZ s_o_told_paper), (gX10 o_told_words cB cI cJ cZ s_o_told_words)]) cx lk_RX11_221 (c_X2_waysOf l D cB cI cJ cZ o_told o_guess o_told_forms o_told_paper o_told_words o_told_stock s_o_told s_o_guess s_o_told_forms s_o_told_paper s_o_told_words x1 x2 x3 q_3 hq_3) rfl [2, 1, 3, 4, 5] rfl rfl rfl rfl (ci := 2) (q1 := 2) rfl rfl rfl (Nat.le_of_ble_eq_true rfl) ⟨rfl, rfl, Nat.le_of_ble_eq_true rfl, Nat.le_of_ble_eq_true rfl⟩ dX11_burnt_33 ?_
      refine g_ls cx (L2 := fun v5_4 => [(5, .long v5_4), (0, .ref (o 0)), (1, .int x1), (2, .int x2), (3, .int x3), (4, .int x4)]) hf dX11_burnt_36 (Nat.le_of_ble_eq_true rfl) (fun _ => rfl) (fun v5_4 hf => ?_)
      refine g_il cx 5 dX11_burnt_38 rfl ?_
      refine g_if_ge (tgt := 46) cx hf dX11_burnt_40 rfl (fun hf => ?_) (fun hf => ?_)
      · refine g_ll cx 0 dX11_burnt_46 rfl ?_
        refine g_lc cx dX11_burnt_48 rfl ?_
        refine g_lcmp cx dX11_burnt_49 ?_
        refine g_if_le (tgt := 72) cx hf dX11_burnt_50 rfl (fun hf => ?_) (fun hf => ?_)
        · refine g_lc cx dX11_burnt_72 rfl ?_
          exact g_lret (ovf := fun (r : Int64 × S2) => (some (.long r.1))) (wf := fun (r : Int64 × S2) => (w_X11_burnt o o_guess o_told o_told_forms o_told_paper o_told_words o_text o_verdict o_trial o_mending o_choice o_firstImage o_secondImage o_spare o_told_stock cB cI cJ cZ s_o r.2 s_o_told s_o_told_forms s_o_told_paper s_o_told_words (.ref (o_told 0)) (.ref (o_spare 0)))) cx hA hr hf rfl rfl dX11_burnt_73
        · refine g_aln cx 1 dX11_burnt_53 rfl ?_
          refine fg_RX11_42 cx 0 rfl rfl dX11_burnt_54 ?_
          refine g_aln cx 1 dX11_burnt_57 rfl ?_
          refine fg_RX11_62 cx 0 rfl rfl dX11_burnt_58 ?_
          refine g_iln cx 2 dX11_burnt_61 rfl ?_
          refine g_iln cx 3 dX11_burnt_62 rfl ?_
          refine g_il cx 5 dX11_burnt_63 rfl ?_
          refine ob hf (fun q_5 hq_5 hf => ?_)
          refine g_callVGi (gs' := [(gX11 o cB cI cJ cZ (o_text 0) (o_verdict 0) (o_trial 0) (o_mending 0) (o_guess 0) (o_choice 0) (o_firstImage 0) (o_secondImage 0) (.ref (o_told 0)) (.ref (o_spare 0)) s_o), (gX2 o_guess cB cI cJ cZ q_5.2), (gX7 o_told cB cI cJ cZ (o_told_words 0) (o_told_forms 0) (o_told_paper 0) (o_told_stock 0) s_o_told), (gX1 o_told_forms cB cI cJ cZ s_o_told_forms), (gX4 o_told_paper cB cI cJ cZ s_o_told_paper), (gX10 o_told_words cB cI cJ cZ s_o_told_words)]) cx lk_RX11_225 (c_X2_wordsOf l D cB cI cJ cZ o_told o_guess o_told_forms o_told_words o_told_paper o_told_stock s_o_told q_3.2 s_o_told_forms s_o_told_words x1 x2 x4 q_5 hq_5) rfl [2, 1, 3, 5] rfl rfl rfl rfl (ci := 2) (q1 := 2) rfl rfl rfl (Nat.le_of_ble_eq_true rfl) ⟨rfl, rfl, Nat.le_of_ble_eq_true rfl, Nat.le_of_ble_eq_true rfl⟩ dX11_burnt_65 ?_
          refine g_i2l cx dX11_burnt_68 ?_
          refine g_goto (tgt := 73) cx dX11_burnt_69 rfl ?_
          exact g_lret (ovf := fun (r : Int64 × S2) => (some (.long r.1))) (wf := fun (r : Int64 × S2) => (w_X11_burnt o o_guess o_told o_told_forms o_told_paper o_told_words o_text o_verdict o_trial o_mending o_choice o_firstImage o_secondImage o_spare o_told_stock cB cI cJ cZ s_o r.2 s_o_told s_o_told_forms s_o_told_paper s_o_told_words (.ref (o_told 0)) (.ref (o_spare 0)))) cx hA hr hf rfl rfl dX11_burnt_73
      · refine g_ll cx 0 dX11_burnt_43 rfl ?_
        exact g_lret (ovf := fun (r : Int64 × S2) => (some (.long r.1))) (wf := fun (r : Int64 × S2) => (w_X11_burnt o o_guess o_told o_told_forms o_told_paper o_told_words o_text o_verdict o_trial o_mending o_choice o_firstImage o_secondImage o_spare o_told_stock cB cI cJ cZ s_o r.2 s_o_told s_o_told_forms s_o_told_paper s_o_told_words (.ref (o_told 0)) (.ref (o_spare 0)))) cx hA hr hf rfl rfl dX11_burnt_45
    · refine g_sub [] rfl ?_
      exact h18 _ hf
