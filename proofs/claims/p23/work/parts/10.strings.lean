theorem dJ3_checkIndex_8e157_0 : decode cJ3_checkIndex_8e157 0 = .ok (.iload_n 0, 1) := by decide +kernel
theorem dJ3_checkIndex_8e157_1 : decode cJ3_checkIndex_8e157 1 = .ok (.ifCond .lt 8, 3) := by decide +kernel
theorem dJ3_checkIndex_8e157_4 : decode cJ3_checkIndex_8e157 4 = .ok (.iload_n 0, 1) := by decide +kernel
theorem dJ3_checkIndex_8e157_5 : decode cJ3_checkIndex_8e157 5 = .ok (.iload_n 1, 1) := by decide +kernel
theorem dJ3_checkIndex_8e157_6 : decode cJ3_checkIndex_8e157 6 = .ok (.if_icmp .lt 10, 3) := by decide +kernel
theorem dJ3_checkIndex_8e157_9 : decode cJ3_checkIndex_8e157 9 = .ok (.aload_n 2, 1) := by decide +kernel
theorem dJ3_checkIndex_8e157_10 : decode cJ3_checkIndex_8e157 10 = .ok (.iload_n 0, 1) := by decide +kernel
theorem dJ3_checkIndex_8e157_11 : decode cJ3_checkIndex_8e157 11 = .ok (.iload_n 1, 1) := by decide +kernel
theorem dJ3_checkIndex_8e157_12 : decode cJ3_checkIndex_8e157 12 = .ok (.invokestatic 95, 3) := by decide +kernel
theorem dJ3_checkIndex_8e157_15 : decode cJ3_checkIndex_8e157 15 = .ok (.athrow, 1) := by decide +kernel
theorem dJ3_checkIndex_8e157_16 : decode cJ3_checkIndex_8e157 16 = .ok (.iload_n 0, 1) := by decide +kernel
theorem dJ3_checkIndex_8e157_17 : decode cJ3_checkIndex_8e157 17 = .ok (.ireturn, 1) := by decide +kernel
theorem dJ0_checkIndex_df160_0 : decode cJ0_checkIndex_df160 0 = .ok (.iload_n 0, 1) := by decide +kernel
theorem dJ0_checkIndex_df160_1 : decode cJ0_checkIndex_df160 1 = .ok (.iload_n 1, 1) := by decide +kernel
theorem dJ0_checkIndex_df160_2 : decode cJ0_checkIndex_df160 2 = .ok (.getstatic 1053, 3) := by decide +kernel
theorem dJ0_checkIndex_df160_5 : decode cJ0_checkIndex_df160 5 = .ok (.invokestatic 1059, 3) := by decide +kernel
theorem dJ0_checkIndex_df160_8 : decode cJ0_checkIndex_df160 8 = .ok (.pop, 1) := by decide +kernel
theorem dJ0_checkIndex_df160_9 : decode cJ0_checkIndex_df160 9 = .ok (.return_, 1) := by decide +kernel
theorem dJ1_charAt_3b067_0 : decode cJ1_charAt_3b067 0 = .ok (.iload_n 1, 1) := by decide +kernel
theorem dJ1_charAt_3b067_1 : decode cJ1_charAt_3b067 1 = .ok (.aload_n 0, 1) := by decide +kernel
theorem dJ1_charAt_3b067_2 : decode cJ1_charAt_3b067 2 = .ok (.arraylength, 1) := by decide +kernel
theorem dJ1_charAt_3b067_3 : decode cJ1_charAt_3b067 3 = .ok (.invokestatic 9, 3) := by decide +kernel
theorem dJ1_charAt_3b067_6 : decode cJ1_charAt_3b067 6 = .ok (.aload_n 0, 1) := by decide +kernel
theorem dJ1_charAt_3b067_7 : decode cJ1_charAt_3b067 7 = .ok (.iload_n 1, 1) := by decide +kernel
theorem dJ1_charAt_3b067_8 : decode cJ1_charAt_3b067 8 = .ok (.baload, 1) := by decide +kernel
theorem dJ1_charAt_3b067_9 : decode cJ1_charAt_3b067 9 = .ok (.sipush 255, 3) := by decide +kernel
theorem dJ1_charAt_3b067_12 : decode cJ1_charAt_3b067 12 = .ok (.iand, 1) := by decide +kernel
theorem dJ1_charAt_3b067_13 : decode cJ1_charAt_3b067 13 = .ok (.i2c, 1) := by decide +kernel
theorem dJ1_charAt_3b067_14 : decode cJ1_charAt_3b067 14 = .ok (.ireturn, 1) := by decide +kernel
theorem dJ0_isLatin1_aae02_0 : decode cJ0_isLatin1_aae02 0 = .ok (.getstatic 38, 3) := by decide +kernel
theorem dJ0_isLatin1_aae02_3 : decode cJ0_isLatin1_aae02 3 = .ok (.ifCond .eq 14, 3) := by decide +kernel
theorem dJ0_isLatin1_aae02_6 : decode cJ0_isLatin1_aae02 6 = .ok (.aload_n 0, 1) := by decide +kernel
theorem dJ0_isLatin1_aae02_7 : decode cJ0_isLatin1_aae02 7 = .ok (.getfield 15, 3) := by decide +kernel
theorem dJ0_isLatin1_aae02_10 : decode cJ0_isLatin1_aae02 10 = .ok (.ifCond .ne 7, 3) := by decide +kernel
theorem dJ0_isLatin1_aae02_13 : decode cJ0_isLatin1_aae02 13 = .ok (.iconst 1, 1) := by decide +kernel
theorem dJ0_isLatin1_aae02_14 : decode cJ0_isLatin1_aae02 14 = .ok (.goto 4, 3) := by decide +kernel
theorem dJ0_isLatin1_aae02_17 : decode cJ0_isLatin1_aae02 17 = .ok (.iconst 0, 1) := by decide +kernel
theorem dJ0_isLatin1_aae02_18 : decode cJ0_isLatin1_aae02 18 = .ok (.ireturn, 1) := by decide +kernel
theorem dJ0_coder_7d493_0 : decode cJ0_coder_7d493 0 = .ok (.getstatic 38, 3) := by decide +kernel
theorem dJ0_coder_7d493_3 : decode cJ0_coder_7d493 3 = .ok (.ifCond .eq 10, 3) := by decide +kernel
theorem dJ0_coder_7d493_6 : decode cJ0_coder_7d493 6 = .ok (.aload_n 0, 1) := by decide +kernel
theorem dJ0_coder_7d493_7 : decode cJ0_coder_7d493 7 = .ok (.getfield 15, 3) := by decide +kernel
theorem dJ0_coder_7d493_10 : decode cJ0_coder_7d493 10 = .ok (.goto 4, 3) := by decide +kernel
theorem dJ0_coder_7d493_13 : decode cJ0_coder_7d493 13 = .ok (.iconst 1, 1) := by decide +kernel
theorem dJ0_coder_7d493_14 : decode cJ0_coder_7d493 14 = .ok (.ireturn, 1) := by decide +kernel
theorem dJ0_length_8abf5_0 : decode cJ0_length_8abf5 0 = .ok (.aload_n 0, 1) := by decide +kernel
theorem dJ0_length_8abf5_1 : decode cJ0_length_8abf5 1 = .ok (.getfield 9, 3) := by decide +kernel
theorem dJ0_length_8abf5_4 : decode cJ0_length_8abf5 4 = .ok (.arraylength, 1) := by decide +kernel
theorem dJ0_length_8abf5_5 : decode cJ0_length_8abf5 5 = .ok (.aload_n 0, 1) := by decide +kernel
theorem dJ0_length_8abf5_6 : decode cJ0_length_8abf5 6 = .ok (.invokevirtual 335, 3) := by decide +kernel
theorem dJ0_length_8abf5_9 : decode cJ0_length_8abf5 9 = .ok (.ishr, 1) := by decide +kernel
theorem dJ0_length_8abf5_10 : decode cJ0_length_8abf5 10 = .ok (.ireturn, 1) := by decide +kernel
theorem dJ0_charAt_5068e_0 : decode cJ0_charAt_5068e 0 = .ok (.aload_n 0, 1) := by decide +kernel
theorem dJ0_charAt_5068e_1 : decode cJ0_charAt_5068e 1 = .ok (.invokevirtual 492, 3) := by decide +kernel
theorem dJ0_charAt_5068e_4 : decode cJ0_charAt_5068e 4 = .ok (.ifCond .eq 12, 3) := by decide +kernel
theorem dJ0_charAt_5068e_7 : decode cJ0_charAt_5068e 7 = .ok (.aload_n 0, 1) := by decide +kernel
theorem dJ0_charAt_5068e_8 : decode cJ0_charAt_5068e 8 = .ok (.getfield 9, 3) := by decide +kernel
theorem dJ0_charAt_5068e_11 : decode cJ0_charAt_5068e 11 = .ok (.iload_n 1, 1) := by decide +kernel
theorem dJ0_charAt_5068e_12 : decode cJ0_charAt_5068e 12 = .ok (.invokestatic 495, 3) := by decide +kernel
theorem dJ0_charAt_5068e_15 : decode cJ0_charAt_5068e 15 = .ok (.ireturn, 1) := by decide +kernel
theorem dJ0_charAt_5068e_16 : decode cJ0_charAt_5068e 16 = .ok (.aload_n 0, 1) := by decide +kernel
theorem dJ0_charAt_5068e_17 : decode cJ0_charAt_5068e 17 = .ok (.getfield 9, 3) := by decide +kernel
theorem dJ0_charAt_5068e_20 : decode cJ0_charAt_5068e 20 = .ok (.iload_n 1, 1) := by decide +kernel
theorem dJ0_charAt_5068e_21 : decode cJ0_charAt_5068e 21 = .ok (.invokestatic 498, 3) := by decide +kernel
theorem dJ0_charAt_5068e_24 : decode cJ0_charAt_5068e 24 = .ok (.ireturn, 1) := by decide +kernel
theorem k_sp255 : (Int16.ofInt (255)).toInt32 = 255 := by decide


theorem q1_15 : Cond.initialized RJ0 ∈ TT := tq1 15 rfl rfl
theorem q1_16 : Cond.initialized RJ1 ∈ TT := tq1 16 rfl rfl
theorem q1_17 : Cond.initialized RJ3 ∈ TT := tq1 17 rfl rfl
theorem q2_107 : Cond.methodLink RJ0 335 yJ0_coder_7d493 ∈ TT := tq2 107 rfl rfl
theorem q2_108 : Cond.instanceMethod yJ0_coder_7d493 ∈ TT := tq2 108 rfl rfl
theorem q2_109 : Cond.selects RJ0 yJ0_coder_7d493 yJ0_coder_7d493 ∈ TT := tq2 109 rfl rfl
theorem q2_110 : Cond.code yJ0_coder_7d493 cJ0_coder_7d493 1 (some .byte) ∈ TT := tq2 110 rfl rfl
theorem q2_111 : Cond.fieldLink RJ0 38 "java/lang/String" "COMPACT_STRINGS" "Z" ∈ TT := tq2 111 rfl rfl
theorem q2_117 : Cond.methodLink RJ0 492 yJ0_isLatin1_aae02 ∈ TT := tq2 117 rfl rfl
theorem q2_118 : Cond.instanceMethod yJ0_isLatin1_aae02 ∈ TT := tq2 118 rfl rfl
theorem q2_119 : Cond.selects RJ0 yJ0_isLatin1_aae02 yJ0_isLatin1_aae02 ∈ TT := tq2 119 rfl rfl
theorem q2_120 : Cond.code yJ0_isLatin1_aae02 cJ0_isLatin1_aae02 1 (some .boolean) ∈ TT := tq2 120 rfl rfl
theorem q2_121 : Cond.methodLink RJ0 495 yJ1_charAt_3b067 ∈ TT := tq2 121 rfl rfl
theorem q2_122 : Cond.static yJ1_charAt_3b067 ∈ TT := tq2 122 rfl rfl
theorem q2_123 : Cond.code yJ1_charAt_3b067 cJ1_charAt_3b067 2 (some .char) ∈ TT := tq2 123 rfl rfl
theorem q2_124 : Cond.methodLink RJ1 9 yJ0_checkIndex_df160 ∈ TT := tq2 124 rfl rfl
theorem q2_125 : Cond.static yJ0_checkIndex_df160 ∈ TT := tq2 125 rfl rfl
theorem q2_126 : Cond.code yJ0_checkIndex_df160 cJ0_checkIndex_df160 2 none ∈ TT := tq2 126 rfl rfl
theorem q2_127 : Cond.fieldLink RJ0 1053 "jdk/internal/util/Preconditions" "SIOOBE_FORMATTER" "Ljava/util/function/BiFunction;" ∈ TT := tq2 127 rfl rfl
theorem q2_129 : Cond.methodLink RJ0 1059 yJ3_checkIndex_8e157 ∈ TT := tq2 129 rfl rfl
theorem q2_130 : Cond.static yJ3_checkIndex_8e157 ∈ TT := tq2 130 rfl rfl
theorem q2_131 : Cond.code yJ3_checkIndex_8e157 cJ3_checkIndex_8e157 3 (some .int) ∈ TT := tq2 131 rfl rfl
theorem q6_126 : Cond.fieldLink RJ0 9 "java/lang/String" "value" "[B" ∈ TT := tq6 126 rfl rfl
theorem q6_127 : Cond.fieldLink RJ0 15 "java/lang/String" "coder" "B" ∈ TT := tq6 127 rfl rfl
theorem lk_RJ0_1059 : slk RJ0 1059 yJ3_checkIndex_8e157 cJ3_checkIndex_8e157 3 (some .int) 3 := ⟨List.forall_mem_cons.mpr ⟨q2_129, List.forall_mem_cons.mpr ⟨q2_130, List.forall_mem_cons.mpr ⟨q1_17, fun _ h => absurd h List.not_mem_nil⟩⟩⟩, q2_131, by decide, by decide, by decide +kernel⟩
theorem lk_RJ1_9 : slk RJ1 9 yJ0_checkIndex_df160 cJ0_checkIndex_df160 2 none 2 := ⟨List.forall_mem_cons.mpr ⟨q2_124, List.forall_mem_cons.mpr ⟨q2_125, List.forall_mem_cons.mpr ⟨q1_15, fun _ h => absurd h List.not_mem_nil⟩⟩⟩, q2_126, by decide, by decide, by decide +kernel⟩
theorem lk_RJ0_492 : vlk RJ0 492 yJ0_isLatin1_aae02 cJ0_isLatin1_aae02 1 (some .boolean) 0 := ⟨List.forall_mem_cons.mpr ⟨q2_117, List.forall_mem_cons.mpr ⟨q2_118, List.forall_mem_cons.mpr ⟨q2_119, List.forall_mem_cons.mpr ⟨q1_15, fun _ h => absurd h List.not_mem_nil⟩⟩⟩⟩, q2_120, by decide, by decide, by decide +kernel⟩
theorem lk_RJ0_495 : slk RJ0 495 yJ1_charAt_3b067 cJ1_charAt_3b067 2 (some .char) 2 := ⟨List.forall_mem_cons.mpr ⟨q2_121, List.forall_mem_cons.mpr ⟨q2_122, List.forall_mem_cons.mpr ⟨q1_16, fun _ h => absurd h List.not_mem_nil⟩⟩⟩, q2_123, by decide, by decide, by decide +kernel⟩
theorem lk_RJ0_335 : vlk RJ0 335 yJ0_coder_7d493 cJ0_coder_7d493 1 (some .byte) 0 := ⟨List.forall_mem_cons.mpr ⟨q2_107, List.forall_mem_cons.mpr ⟨q2_108, List.forall_mem_cons.mpr ⟨q2_109, List.forall_mem_cons.mpr ⟨q1_15, fun _ h => absurd h List.not_mem_nil⟩⟩⟩⟩, q2_110, by decide, by decide, by decide +kernel⟩
theorem str_all : ∀ k, k < 5 → (sLen.getD k 0 < 100 ∧ sLen.getD k 0 = (sByt.getD k []).length ∧ ∀ b ∈ sByt.getD k [], ((b &&& 255).toUInt32 % 65536).toInt32 = b) := by decide +kernel
theorem str_len {k : Nat} (hk : k < 5) : sLen.getD k 0 < 2 ^ 31 := by have := (str_all k hk).1; omega
theorem str_ch {k : Nat} (hk : k < 5) {i v : Int32} (hf : aget (sLen.getD k 0) (fun j => (sByt.getD k []).getD j 0) i = some v) : v = ((v &&& 255).toUInt32 % 65536).toInt32 := by
  obtain ⟨hin, rfl⟩ := aget_some hf
  have hlt : i.toNatClampNeg < sLen.getD k 0 := Nat.not_le.mp fun q => hin (Or.inr q)
  obtain ⟨-, h2, h3⟩ := str_all k hk
  refine (h3 _ ?_).symm
  rw [h2] at hlt
  have key : ∀ (L : List Int32) (n : Nat), n < L.length → L.getD n 0 ∈ L := fun L n h => by rw [List.getD_eq_getElem?_getD, List.getElem?_eq_getElem h]; exact List.getElem_mem h
  exact key _ _ hlt
set_option maxHeartbeats 4000000 in
set_option maxRecDepth 100000 in
theorem c_pcheckN (l : Launch) (D : gG) (cB cI cJ cZ : ClassId) (i n : Int32) (h0 : ¬ i < 0) (h1 : i < n) : gM l D (tyL cB cI cJ cZ) yJ3_checkIndex_8e157 cJ3_checkIndex_8e157 3 (some .int) { frames := 0, cells := 0, slots := 0, locals := 0 } [.int i, .int n, .null] [] (some (.int i)) [] := by
  refine met_of (by decide) (Nat.le_of_ble_eq_true rfl) ?_
  intro p e s m args below meth c A cx hr hA
  show gW p l e _ s m args below meth c D A 3 _ 0 0 [] [(0, .int i), (1, .int n), (2, .null)] 0 []
  refine g_iln cx 0 dJ3_checkIndex_8e157_0 rfl ?_
  refine g_iltF (tgt := 9) cx h0 rfl dJ3_checkIndex_8e157_1 ?_
  refine g_iln cx 0 dJ3_checkIndex_8e157_4 rfl ?_
  refine g_iln cx 1 dJ3_checkIndex_8e157_5 rfl ?_
  refine g_cltT (tgt := 16) cx h1 rfl dJ3_checkIndex_8e157_6 ?_
  refine g_iln cx 0 dJ3_checkIndex_8e157_16 rfl ?_
  exact g_tret cx hA hr rfl dJ3_checkIndex_8e157_17
set_option maxHeartbeats 4000000 in
set_option maxRecDepth 100000 in
theorem c_pcheckR (l : Launch) (D : gG) (cB cI cJ cZ : ClassId) (i n : Int32) (t : Nat) (h0 : ¬ i < 0) (h1 : i < n) : gM l D (tyL cB cI cJ cZ) yJ3_checkIndex_8e157 cJ3_checkIndex_8e157 3 (some .int) { frames := 0, cells := 0, slots := 0, locals := 0 } [.int i, .int n, (.ref t)] [] (some (.int i)) [] := by
  refine met_of (by decide) (Nat.le_of_ble_eq_true rfl) ?_
  intro p e s m args below meth c A cx hr hA
  show gW p l e _ s m args below meth c D A 3 _ 0 0 [] [(0, .int i), (1, .int n), (2, (.ref t))] 0 []
  refine g_iln cx 0 dJ3_checkIndex_8e157_0 rfl ?_
  refine g_iltF (tgt := 9) cx h0 rfl dJ3_checkIndex_8e157_1 ?_
  refine g_iln cx 0 dJ3_checkIndex_8e157_4 rfl ?_
  refine g_iln cx 1 dJ3_checkIndex_8e157_5 rfl ?_
  refine g_cltT (tgt := 16) cx h1 rfl dJ3_checkIndex_8e157_6 ?_
  refine g_iln cx 0 dJ3_checkIndex_8e157_16 rfl ?_
  exact g_tret cx hA hr rfl dJ3_checkIndex_8e157_17
set_option maxHeartbeats 4000000 in
set_option maxRecDepth 100000 in
theorem c_scheck (l : Launch) (D : gG) (cB cI cJ cZ : ClassId) (i n : Int32) (h0 : ¬ i < 0) (h1 : i < n) : gM l D (tyL cB cI cJ cZ) yJ0_checkIndex_df160 cJ0_checkIndex_df160 2 none { frames := 1, cells := 0, slots := 0, locals := 22 } [.int i, .int n] [] none [] := by
  refine met_of (by decide) (Nat.le_of_ble_eq_true rfl) ?_
  intro p e s m args below meth c A cx hr hA
  show gW p l e _ s m args below meth c D A 2 _ 0 0 [] [(0, .int i), (1, .int n)] 0 []
  refine g_iln cx 0 dJ0_checkIndex_df160_0 rfl ?_
  refine g_iln cx 1 dJ0_checkIndex_df160_1 rfl ?_
  rcases cx.2.2.2.2.2.2.2.2.2.2.2 with hz | ⟨t, hz⟩
  · refine g_gets cx hz q2_127 dJ0_checkIndex_df160_2 ?_
    refine g_callSiR cx lk_RJ0_1059 (c_pcheckN l D cB cI cJ cZ i n h0 h1) rfl [] rfl rfl rfl (Nat.le_of_ble_eq_true rfl) ⟨rfl, rfl, Nat.le_of_ble_eq_true rfl, Nat.le_of_ble_eq_true rfl⟩ dJ0_checkIndex_df160_5 ?_
    refine g_pop cx dJ0_checkIndex_df160_8 rfl ?_
    exact g_tvret cx hA hr dJ0_checkIndex_df160_9
  · refine g_gets cx hz q2_127 dJ0_checkIndex_df160_2 ?_
    refine g_callSiR cx lk_RJ0_1059 (c_pcheckR l D cB cI cJ cZ i n t h0 h1) rfl [] rfl rfl rfl (Nat.le_of_ble_eq_true rfl) ⟨rfl, rfl, Nat.le_of_ble_eq_true rfl, Nat.le_of_ble_eq_true rfl⟩ dJ0_checkIndex_df160_5 ?_
    refine g_pop cx dJ0_checkIndex_df160_8 rfl ?_
    exact g_tvret cx hA hr dJ0_checkIndex_df160_9
set_option maxHeartbeats 4000000 in
set_option maxRecDepth 100000 in
theorem c_lcharAt (l : Launch) (D : gG) (cB cI cJ cZ : ClassId) (k : Nat) (hk : k < 5) (i v : Int32) (hf : aget (sLen.getD k 0) (fun j => (sByt.getD k []).getD j 0) i = some v) : gM l D (tyL cB cI cJ cZ) yJ1_charAt_3b067 cJ1_charAt_3b067 2 (some .char) { frames := 2, cells := 0, slots := 0, locals := 43 } [.ref (D.2.2 k), .int i] [] (some (.int ((v &&& 255).toUInt32 % 65536).toInt32)) [] := by
  obtain ⟨hin, rfl⟩ := aget_some hf
  have hl : sLen.getD k 0 < 2 ^ 31 := str_len hk
  obtain ⟨j, hj, rfl⟩ := vp_in_of hin hl
  refine met_of (by decide) (Nat.le_of_ble_eq_true rfl) ?_
  intro p e s m args below meth c A cx hr hA
  show gW p l e _ s m args below meth c D A 2 _ 0 0 [] [(0, .ref (D.2.2 k)), (1, .int (nI j))] 0 []
  have hT := (cx.2.2.2.2.2.2.2.2.1.1 k hk).2.2.2
  refine g_iln cx 1 dJ1_charAt_3b067_0 rfl ?_
  refine g_aln cx 0 dJ1_charAt_3b067_1 rfl ?_
  refine g_klen (v := nI (sLen.getD k 0)) cx hT rfl dJ1_charAt_3b067_2 ?_
  refine g_callSvR cx lk_RJ1_9 (c_scheck l D cB cI cJ cZ (nI j) (nI (sLen.getD k 0)) (nI_pos (by omega)) (nI_lt hj hl)) rfl [] rfl rfl rfl (Nat.le_of_ble_eq_true rfl) ⟨rfl, rfl, Nat.le_of_ble_eq_true rfl, Nat.le_of_ble_eq_true rfl⟩ dJ1_charAt_3b067_3 ?_
  refine g_aln cx 0 dJ1_charAt_3b067_6 rfl ?_
  refine g_iln cx 1 dJ1_charAt_3b067_7 rfl ?_
  refine g_kb cx hT hin rfl dJ1_charAt_3b067_8 ?_
  refine g_sp cx dJ1_charAt_3b067_9 k_sp255 ?_
  refine g_iand cx dJ1_charAt_3b067_12 ?_
  refine g_i2c cx dJ1_charAt_3b067_13 ?_
  exact g_tret cx hA hr (pk_nc _) dJ1_charAt_3b067_14
set_option maxHeartbeats 4000000 in
set_option maxRecDepth 100000 in
theorem c_isLatin1 (l : Launch) (D : gG) (cB cI cJ cZ : ClassId) (k : Nat) (hk : k < 5) : gM l D (tyL cB cI cJ cZ) yJ0_isLatin1_aae02 cJ0_isLatin1_aae02 1 (some .boolean) { frames := 0, cells := 0, slots := 0, locals := 0 } [.ref (D.2.1 k)] [] (some (.int 1)) [] := by
  refine met_of (by decide) (Nat.le_of_ble_eq_true rfl) ?_
  intro p e s m args below meth c A cx hr hA
  show gW p l e _ s m args below meth c D A 1 _ 0 0 [] [(0, .ref (D.2.1 k))] 0 []
  refine g_gets cx cx.2.2.2.2.2.2.2.2.2.2.1 q2_111 dJ0_isLatin1_aae02_0 ?_
  refine g_ieqF (tgt := 17) cx (by decide) rfl dJ0_isLatin1_aae02_3 ?_
  refine g_aln cx 0 dJ0_isLatin1_aae02_6 rfl ?_
  refine g_kget cx (cx.2.2.2.2.2.2.2.2.1.1 k hk).2.1 q6_127 dJ0_isLatin1_aae02_7 ?_
  refine g_ineF (tgt := 17) cx rfl rfl dJ0_isLatin1_aae02_10 ?_
  refine g_ic cx dJ0_isLatin1_aae02_13 k_ic1 ?_
  refine g_goto (tgt := 18) cx dJ0_isLatin1_aae02_14 rfl ?_
  exact g_tret cx hA hr rfl dJ0_isLatin1_aae02_18
set_option maxHeartbeats 4000000 in
set_option maxRecDepth 100000 in
theorem c_coder (l : Launch) (D : gG) (cB cI cJ cZ : ClassId) (k : Nat) (hk : k < 5) : gM l D (tyL cB cI cJ cZ) yJ0_coder_7d493 cJ0_coder_7d493 1 (some .byte) { frames := 0, cells := 0, slots := 0, locals := 0 } [.ref (D.2.1 k)] [] (some (.int 0)) [] := by
  refine met_of (by decide) (Nat.le_of_ble_eq_true rfl) ?_
  intro p e s m args below meth c A cx hr hA
  show gW p l e _ s m args below meth c D A 1 _ 0 0 [] [(0, .ref (D.2.1 k))] 0 []
  refine g_gets cx cx.2.2.2.2.2.2.2.2.2.2.1 q2_111 dJ0_coder_7d493_0 ?_
  refine g_ieqF (tgt := 13) cx (by decide) rfl dJ0_coder_7d493_3 ?_
  refine g_aln cx 0 dJ0_coder_7d493_6 rfl ?_
  refine g_kget cx (cx.2.2.2.2.2.2.2.2.1.1 k hk).2.1 q6_127 dJ0_coder_7d493_7 ?_
  refine g_goto (tgt := 14) cx dJ0_coder_7d493_10 rfl ?_
  exact g_tret cx hA hr rfl dJ0_coder_7d493_14
abbrev rm_slength : Room := { frames := 1, cells := 0, slots := 0, locals := 20 }
set_option maxHeartbeats 4000000 in
set_option maxRecDepth 100000 in
theorem c_slength (l : Launch) (D : gG) (cB cI cJ cZ : ClassId) (k : Nat) (hk : k < 5) : gM l D (tyL cB cI cJ cZ) yJ0_length_8abf5 cJ0_length_8abf5 1 (some .int) rm_slength [.ref (D.2.1 k)] [] (some (.int (nI (sLen.getD k 0)))) [] := by
  refine met_of (by decide) (Nat.le_of_ble_eq_true rfl) ?_
  intro p e s m args below meth c A cx hr hA
  show gW p l e _ s m args below meth c D A 1 _ 0 0 [] [(0, .ref (D.2.1 k))] 0 []
  refine g_aln cx 0 dJ0_length_8abf5_0 rfl ?_
  refine g_kget cx (cx.2.2.2.2.2.2.2.2.1.1 k hk).2.2.1 q6_126 dJ0_length_8abf5_1 ?_
  refine g_klen (v := nI (sLen.getD k 0)) cx (cx.2.2.2.2.2.2.2.2.1.1 k hk).2.2.2 rfl dJ0_length_8abf5_4 ?_
  refine g_aln cx 0 dJ0_length_8abf5_5 rfl ?_
  refine g_callK cx lk_RJ0_335 rfl hk (c_coder l D cB cI cJ cZ k hk) rfl rfl (Nat.le_of_ble_eq_true rfl) ⟨rfl, rfl, Nat.le_of_ble_eq_true rfl, Nat.le_of_ble_eq_true rfl⟩ dJ0_length_8abf5_6 ?_
  refine g_ishr cx dJ0_length_8abf5_9 ?_
  rw [sc_shr0 (str_len hk)]
  exact g_tret cx hA hr rfl dJ0_length_8abf5_10
abbrev rm_scharAt : Room := { frames := 3, cells := 0, slots := 0, locals := 64 }
set_option maxHeartbeats 4000000 in
set_option maxRecDepth 100000 in
theorem c_scharAt (l : Launch) (D : gG) (cB cI cJ cZ : ClassId) (k : Nat) (hk : k < 5) (i v : Int32) (hf : aget (sLen.getD k 0) (fun j => (sByt.getD k []).getD j 0) i = some v) : gM l D (tyL cB cI cJ cZ) yJ0_charAt_5068e cJ0_charAt_5068e 2 (some .char) rm_scharAt [.ref (D.2.1 k), .int i] [] (some (.int v)) [] := by
  rw [str_ch hk hf]
  refine met_of (by decide) (Nat.le_of_ble_eq_true rfl) ?_
  intro p e s m args below meth c A cx hr hA
  show gW p l e _ s m args below meth c D A 2 _ 0 0 [] [(0, .ref (D.2.1 k)), (1, .int i)] 0 []
  refine g_aln cx 0 dJ0_charAt_5068e_0 rfl ?_
  refine g_callK cx lk_RJ0_492 rfl hk (c_isLatin1 l D cB cI cJ cZ k hk) rfl rfl (Nat.le_of_ble_eq_true rfl) ⟨rfl, rfl, Nat.le_of_ble_eq_true rfl, Nat.le_of_ble_eq_true rfl⟩ dJ0_charAt_5068e_1 ?_
  refine g_ieqF (tgt := 16) cx (by decide) rfl dJ0_charAt_5068e_4 ?_
  refine g_aln cx 0 dJ0_charAt_5068e_7 rfl ?_
  refine g_kget cx (cx.2.2.2.2.2.2.2.2.1.1 k hk).2.2.1 q6_126 dJ0_charAt_5068e_8 ?_
  refine g_iln cx 1 dJ0_charAt_5068e_11 rfl ?_
  refine g_callSiR cx lk_RJ0_495 (c_lcharAt l D cB cI cJ cZ k hk i v hf) rfl [] rfl rfl rfl (Nat.le_of_ble_eq_true rfl) ⟨rfl, rfl, Nat.le_of_ble_eq_true rfl, Nat.le_of_ble_eq_true rfl⟩ dJ0_charAt_5068e_12 ?_
  exact g_tret cx hA hr (pk_nc _) dJ0_charAt_5068e_15
