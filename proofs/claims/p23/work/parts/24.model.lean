theorem dX12_ones_0 : decode cX12_ones 0 = .ok (.iconst 0, 1) := by decide +kernel
theorem dX12_ones_1 : decode cX12_ones 1 = .ok (.istore_n 1, 1) := by decide +kernel
theorem dX12_ones_2 : decode cX12_ones 2 = .ok (.iconst 0, 1) := by decide +kernel
theorem dX12_ones_3 : decode cX12_ones 3 = .ok (.istore_n 2, 1) := by decide +kernel
theorem dX12_ones_4 : decode cX12_ones 4 = .ok (.iload_n 2, 1) := by decide +kernel
theorem dX12_ones_5 : decode cX12_ones 5 = .ok (.bipush 16, 2) := by decide +kernel
theorem dX12_ones_7 : decode cX12_ones 7 = .ok (.if_icmp .ge 17, 3) := by decide +kernel
theorem dX12_ones_10 : decode cX12_ones 10 = .ok (.iload_n 1, 1) := by decide +kernel
theorem dX12_ones_11 : decode cX12_ones 11 = .ok (.iload_n 0, 1) := by decide +kernel
theorem dX12_ones_12 : decode cX12_ones 12 = .ok (.iload_n 2, 1) := by decide +kernel
theorem dX12_ones_13 : decode cX12_ones 13 = .ok (.ishr, 1) := by decide +kernel
theorem dX12_ones_14 : decode cX12_ones 14 = .ok (.iconst 1, 1) := by decide +kernel
theorem dX12_ones_15 : decode cX12_ones 15 = .ok (.iand, 1) := by decide +kernel
theorem dX12_ones_16 : decode cX12_ones 16 = .ok (.iadd, 1) := by decide +kernel
theorem dX12_ones_17 : decode cX12_ones 17 = .ok (.istore_n 1, 1) := by decide +kernel
theorem dX12_ones_18 : decode cX12_ones 18 = .ok (.iinc 2 1, 3) := by decide +kernel
theorem dX12_ones_21 : decode cX12_ones 21 = .ok (.goto (-17), 3) := by decide +kernel
theorem dX12_ones_24 : decode cX12_ones 24 = .ok (.iload_n 1, 1) := by decide +kernel
theorem dX12_ones_25 : decode cX12_ones 25 = .ok (.ireturn, 1) := by decide +kernel


def F_X12_ones_b4 (x0 : Int32) : Nat → Int32 → Int32 → Option (Int32)
  | 0, _, _ => none
  | n + 1, v1, v2 => (if 16 ≤ v2 then some (v1) else nm (v1 + ((x0 >>> (v2 &&& 31)) &&& 1)) fun v1_1 => nm (v2 + 1) fun v2_2 => (F_X12_ones_b4 x0 n) v1_1 v2_2)
def F_X12_ones (x0 : Int32) : Option (Int32) := nm 0 fun v1_3 => nm 0 fun v2_4 => F_X12_ones_b4 x0 fu v1_3 v2_4
def w_X12_ones (cB cI cJ cZ : ClassId) : va_W := List.flatten []
abbrev rm_X12_ones : Room := { frames := 0, cells := 0, slots := 0, locals := 0 }
set_option maxHeartbeats 4000000 in
set_option maxRecDepth 100000 in
theorem c_X12_ones (l : Launch) (D : gG) (cB cI cJ cZ : ClassId) (x0 : Int32) (r : Int32) (hf : F_X12_ones x0 = some r) : gM l D (tyL cB cI cJ cZ) yX12_ones cX12_ones 3 (some .int) rm_X12_ones [.int x0] (w_X12_ones cB cI cJ cZ) (some (.int r)) (w_X12_ones cB cI cJ cZ) := by
  refine met_of (by decide) (Nat.le_of_ble_eq_true rfl) ?_
  intro p e s m args below meth c A cx hr hA
  show gW p l e rm_X12_ones s m args below meth c D A 3 _ 0 0 _ [(0, .int x0)] 0 []
  have h4 : ∀ (n : Nat) (v1 : Int32) (v2 : Int32), F_X12_ones_b4 x0 n v1 v2 = some r → gW p l e rm_X12_ones s m args below meth c D A 3 (MQ below (QM D (tyL cB cI cJ cZ) (some (.int r)) (w_X12_ones cB cI cJ cZ) (w_X12_ones cB cI cJ cZ) s.heap.size) args s 0 0 A) 0 0 (w_X12_ones cB cI cJ cZ) [(0, .int x0), (1, .int v1), (2, .int v2)] 4 [] := by
    intro n
    induction n with
    | zero => intro v1 v2 hf; rw [F_X12_ones_b4] at hf; cases hf
    | succ n ih =>
      intro v1 v2 hf
      rw [F_X12_ones_b4] at hf
      refine g_iln cx 2 dX12_ones_4 rfl ?_
      refine g_bp cx dX12_ones_5 k_bp16 ?_
      refine g_ic_ge (tgt := 24) cx hf dX12_ones_7 rfl (fun hf => ?_) (fun hf => ?_)
      · refine g_iln cx 1 dX12_ones_24 rfl ?_
        exact g_iret (ovf := fun (r : Int32) => (some (.int r))) (wf := fun (r : Int32) => (w_X12_ones cB cI cJ cZ)) cx hA hr hf rfl rfl dX12_ones_25
      · refine g_iln cx 1 dX12_ones_10 rfl ?_
        refine g_iln cx 0 dX12_ones_11 rfl ?_
        refine g_iln cx 2 dX12_ones_12 rfl ?_
        refine g_ishr cx dX12_ones_13 ?_
        refine g_ic cx dX12_ones_14 k_ic1 ?_
        refine g_iand cx dX12_ones_15 ?_
        refine g_iadd cx dX12_ones_16 ?_
        refine g_isn cx (L2 := fun v1_1 => [(1, .int v1_1), (0, .int x0), (2, .int v2)]) hf dX12_ones_17 (Nat.le_of_ble_eq_true rfl) (fun _ => rfl) (fun v1_1 hf => ?_)
        refine g_inc cx (L2 := fun v2_2 => [(2, .int v2_2), (1, .int v1_1), (0, .int x0)]) 2 hf dX12_ones_18 rfl (k_inc1 _) (Nat.le_of_ble_eq_true rfl) (fun _ => rfl) (fun v2_2 hf => ?_)
        refine g_goto (tgt := 4) cx dX12_ones_21 rfl ?_
        refine g_sub [2, 1, 0] rfl ?_
        exact ih _ _ hf
  rw [F_X12_ones] at hf
  refine g_ic cx dX12_ones_0 k_ic0 ?_
  refine g_isn cx (L2 := fun v1_3 => [(1, .int v1_3), (0, .int x0)]) hf dX12_ones_1 (Nat.le_of_ble_eq_true rfl) (fun _ => rfl) (fun v1_3 hf => ?_)
  refine g_ic cx dX12_ones_2 k_ic0 ?_
  refine g_isn cx (L2 := fun v2_4 => [(2, .int v2_4), (1, .int v1_3), (0, .int x0)]) hf dX12_ones_3 (Nat.le_of_ble_eq_true rfl) (fun _ => rfl) (fun v2_4 hf => ?_)
  refine g_sub [2, 1, 0] rfl ?_
  exact h4 fu _ _ hf
theorem dX12_key_0 : decode cX12_key 0 = .ok (.aload_n 0, 1) := by decide +kernel
theorem dX12_key_1 : decode cX12_key 1 = .ok (.iconst 0, 1) := by decide +kernel
theorem dX12_key_2 : decode cX12_key 2 = .ok (.putfield 78, 3) := by decide +kernel
theorem dX12_key_5 : decode cX12_key 5 = .ok (.aload_n 0, 1) := by decide +kernel
theorem dX12_key_6 : decode cX12_key 6 = .ok (.iload_n 1, 1) := by decide +kernel
theorem dX12_key_7 : decode cX12_key 7 = .ok (.iload_n 2, 1) := by decide +kernel
theorem dX12_key_8 : decode cX12_key 8 = .ok (.invokevirtual 178, 3) := by decide +kernel
theorem dX12_key_11 : decode cX12_key 11 = .ok (.ifCond .ne 5, 3) := by decide +kernel
theorem dX12_key_14 : decode cX12_key 14 = .ok (.iconst (-1), 1) := by decide +kernel
theorem dX12_key_15 : decode cX12_key 15 = .ok (.ireturn, 1) := by decide +kernel
theorem dX12_key_16 : decode cX12_key 16 = .ok (.aload_n 0, 1) := by decide +kernel
theorem dX12_key_17 : decode cX12_key 17 = .ok (.iload_n 1, 1) := by decide +kernel
theorem dX12_key_18 : decode cX12_key 18 = .ok (.iload_n 2, 1) := by decide +kernel
theorem dX12_key_19 : decode cX12_key 19 = .ok (.invokevirtual 210, 3) := by decide +kernel
theorem dX12_key_22 : decode cX12_key 22 = .ok (.bipush (-9), 2) := by decide +kernel
theorem dX12_key_24 : decode cX12_key 24 = .ok (.istore_n 3, 1) := by decide +kernel
theorem dX12_key_25 : decode cX12_key 25 = .ok (.iconst 0, 1) := by decide +kernel
theorem dX12_key_26 : decode cX12_key 26 = .ok (.istore 4, 2) := by decide +kernel
theorem dX12_key_28 : decode cX12_key 28 = .ok (.iconst 0, 1) := by decide +kernel
theorem dX12_key_29 : decode cX12_key 29 = .ok (.istore 5, 2) := by decide +kernel
theorem dX12_key_31 : decode cX12_key 31 = .ok (.iload 5, 2) := by decide +kernel
theorem dX12_key_33 : decode cX12_key 33 = .ok (.aload_n 0, 1) := by decide +kernel
theorem dX12_key_34 : decode cX12_key 34 = .ok (.getfield 188, 3) := by decide +kernel
theorem dX12_key_37 : decode cX12_key 37 = .ok (.if_icmp .ge 57, 3) := by decide +kernel
theorem dX12_key_40 : decode cX12_key 40 = .ok (.aload_n 0, 1) := by decide +kernel
theorem dX12_key_41 : decode cX12_key 41 = .ok (.iconst 1, 1) := by decide +kernel
theorem dX12_key_42 : decode cX12_key 42 = .ok (.iload 5, 2) := by decide +kernel
theorem dX12_key_44 : decode cX12_key 44 = .ok (.ishl, 1) := by decide +kernel
theorem dX12_key_45 : decode cX12_key 45 = .ok (.invokevirtual 220, 3) := by decide +kernel
theorem dX12_key_48 : decode cX12_key 48 = .ok (.invokestatic 223, 3) := by decide +kernel
theorem dX12_key_51 : decode cX12_key 51 = .ok (.istore 6, 2) := by decide +kernel
theorem dX12_key_53 : decode cX12_key 53 = .ok (.iload_n 3, 1) := by decide +kernel
theorem dX12_key_54 : decode cX12_key 54 = .ok (.bipush (-9), 2) := by decide +kernel
theorem dX12_key_56 : decode cX12_key 56 = .ok (.if_icmp .eq 10, 3) := by decide +kernel
theorem dX12_key_59 : decode cX12_key 59 = .ok (.iload 6, 2) := by decide +kernel
theorem dX12_key_61 : decode cX12_key 61 = .ok (.iload 4, 2) := by decide +kernel
theorem dX12_key_63 : decode cX12_key 63 = .ok (.if_icmp .ge 8, 3) := by decide +kernel
theorem dX12_key_66 : decode cX12_key 66 = .ok (.iload 5, 2) := by decide +kernel
theorem dX12_key_68 : decode cX12_key 68 = .ok (.goto 4, 3) := by decide +kernel
theorem dX12_key_71 : decode cX12_key 71 = .ok (.iload_n 3, 1) := by decide +kernel
theorem dX12_key_72 : decode cX12_key 72 = .ok (.istore_n 3, 1) := by decide +kernel
theorem dX12_key_73 : decode cX12_key 73 = .ok (.iload_n 3, 1) := by decide +kernel
theorem dX12_key_74 : decode cX12_key 74 = .ok (.iload 5, 2) := by decide +kernel
theorem dX12_key_76 : decode cX12_key 76 = .ok (.if_icmp .ne 8, 3) := by decide +kernel
theorem dX12_key_79 : decode cX12_key 79 = .ok (.iload 6, 2) := by decide +kernel
theorem dX12_key_81 : decode cX12_key 81 = .ok (.goto 5, 3) := by decide +kernel
theorem dX12_key_84 : decode cX12_key 84 = .ok (.iload 4, 2) := by decide +kernel
theorem dX12_key_86 : decode cX12_key 86 = .ok (.istore 4, 2) := by decide +kernel
theorem dX12_key_88 : decode cX12_key 88 = .ok (.iinc 5 1, 3) := by decide +kernel
theorem dX12_key_91 : decode cX12_key 91 = .ok (.goto (-60), 3) := by decide +kernel
theorem dX12_key_94 : decode cX12_key 94 = .ok (.iload_n 3, 1) := by decide +kernel
theorem dX12_key_95 : decode cX12_key 95 = .ok (.ireturn, 1) := by decide +kernel
theorem q6_39 : Cond.methodLink RX12 223 yX12_ones ∈ TT := tq6 39 rfl rfl
theorem q6_40 : Cond.static yX12_ones ∈ TT := tq6 40 rfl rfl
theorem q6_41 : Cond.code yX12_ones cX12_ones 3 (some .int) ∈ TT := tq6 41 rfl rfl
theorem lk_RX12_223 : slk RX12 223 yX12_ones cX12_ones 3 (some .int) 1 := ⟨List.forall_mem_cons.mpr ⟨q6_39, List.forall_mem_cons.mpr ⟨q6_40, List.forall_mem_cons.mpr ⟨q1_12, fun _ h => absurd h List.not_mem_nil⟩⟩⟩, q6_41, by decide, by decide, by decide +kernel⟩
def F_X12_key_b86 (x1 : Int32) (x2 : Int32) (K31 : Int32 → Int32 → Int32 → SM → Option (Int32 × SM)) (v3 : Int32) (v5 : Int32) (zs_o : SM) (k0 : Int32) : Option (Int32 × SM) := nm k0 fun v4_1 => nm (v5 + 1) fun v5_2 => K31 v3 v4_1 v5_2 zs_o
def F_X12_key_b72 (x1 : Int32) (x2 : Int32) (K31 : Int32 → Int32 → Int32 → SM → Option (Int32 × SM)) (v4 : Int32) (v5 : Int32) (v6 : Int32) (zs_o : SM) (k0 : Int32) : Option (Int32 × SM) := nm k0 fun v3_3 => (if v3_3 = v5 then F_X12_key_b86 x1 x2 K31 v3_3 v5 zs_o v6 else F_X12_key_b86 x1 x2 K31 v3_3 v5 zs_o v4)
def F_X12_key_b66 (x1 : Int32) (x2 : Int32) (K31 : Int32 → Int32 → Int32 → SM → Option (Int32 × SM)) (v4 : Int32) (v5 : Int32) (v6 : Int32) (zs_o : SM) : Option (Int32 × SM) := F_X12_key_b72 x1 x2 K31 v4 v5 v6 zs_o v5
def F_X12_key_b31 (x1 : Int32) (x2 : Int32) : Nat → Int32 → Int32 → Int32 → SM → Option (Int32 × SM)
  | 0, _, _, _, _ => none
  | n + 1, v3, v4, v5, zs_o => (if (mI zs_o 25) ≤ v5 then some (v3, zs_o) else (F_X12_leftBy zs_o (1 <<< (v5 &&& 31))).bind fun q_4 => (F_X12_ones q_4.1).bind fun q_5 => nm q_5 fun v6_6 => (if v3 = (-9) then F_X12_key_b66 x1 x2 (F_X12_key_b31 x1 x2 n) v4 v5 v6_6 q_4.2 else (if v4 ≤ v6_6 then F_X12_key_b72 x1 x2 (F_X12_key_b31 x1 x2 n) v4 v5 v6_6 q_4.2 v3 else F_X12_key_b66 x1 x2 (F_X12_key_b31 x1 x2 n) v4 v5 v6_6 q_4.2)))
def F_X12_key (s_o : SM) (x1 : Int32) (x2 : Int32) : Option (Int32 × SM) := nm (mIs s_o 0 0) fun s_o_7 => (F_X12_isForm s_o_7 x1 x2).bind fun q_8 => (if q_8 = 0 then some ((-1), s_o_7) else (F_X12_judgesPaper s_o_7 x1 x2).bind fun q_9 => nm (-9) fun v3_10 => nm 0 fun v4_11 => nm 0 fun v5_12 => F_X12_key_b31 x1 x2 fu v3_10 v4_11 v5_12 q_9)

abbrev rm_X12_key : Room := { frames := 4, cells := 0, slots := 0, locals := 94 }
set_option maxHeartbeats 4000000 in
set_option maxRecDepth 100000 in
theorem c_X12_key (l : Launch) (D : gG) (cB cI cJ cZ : ClassId) (o : Nat → Nat) (s_o : SM) (x1 : Int32) (x2 : Int32) (r : Int32 × SM) (hf : F_X12_key s_o x1 x2 = some r) : gM l D (tyL cB cI cJ cZ) yX12_key cX12_key 7 (some .int) rm_X12_key [.ref (o 0), .int x1, .int x2] (wX12 o cB cI cJ cZ s_o) (some (.int r.1)) (wX12 o cB cI cJ cZ r.2) := by
  refine met_of (by decide) (Nat.le_of_ble_eq_true rfl) ?_
  intro p e s m args below meth c A cx hr hA
  show gW p l e rm_X12_key s m args below meth c D A 7 _ 0 0 _ [(0, .ref (o 0)), (1, .int x1), (2, .int x2)] 0 []
  have h86 : ∀ (K31 : Int32 → Int32 → Int32 → SM → Option (Int32 × SM)), (∀ (v3 : Int32) (v4 : Int32) (v5 : Int32) (zs_o : SM), K31 v3 v4 v5 zs_o = some r → gW p l e rm_X12_key s m args below meth c D A 7 (MQ below (QM D (tyL cB cI cJ cZ) (some (.int r.1)) (wX12 o cB cI cJ cZ s_o) (wX12 o cB cI cJ cZ r.2) s.heap.size) args s 0 0 A) 0 0 (wX12 o cB cI cJ cZ zs_o) [(0, .ref (o 0)), (3, .int v3), (4, .int v4), (5, .int v5)] 31 []) → ∀ (v3 : Int32) (v5 : Int32) (zs_o : SM) (k0 : Int32), F_X12_key_b86 x1 x2 K31 v3 v5 zs_o k0 = some r → gW p l e rm_X12_key s m args below meth c D A 7 (MQ below (QM D (tyL cB cI cJ cZ) (some (.int r.1)) (wX12 o cB cI cJ cZ s_o) (wX12 o cB cI cJ cZ r.2) s.heap.size) args s 0 0 A) 0 0 (wX12 o cB cI cJ cZ zs_o) [(0, .ref (o 0)), (3, .int v3), (5, .int v5)] 86 [.int k0] := by
    intro K31 kh31 v3 v5 zs_o k0 hf
    rw [F_X12_key_b86] at hf
    refine g_is cx (L2 := fun v4_1 => [(4, .int v4_1), (0, .ref (o 0)), (3, .int v3), (5, .int v5)]) hf dX12_key_86 (Nat.le_of_ble_eq_true rfl) (fun _ => rfl) (fun v4_1 hf => ?_)
    refine g_inc cx (L2 := fun v5_2 => [(5, .int v5_2), (4, .int v4_1), (0, .ref (o 0)), (3, .int v3)]) 3 hf dX12_key_88 rfl (k_inc1 _) (Nat.le_of_ble_eq_true rfl) (fun _ => rfl) (fun v5_2 hf => ?_)
    refine g_goto (tgt := 31) cx dX12_key_91 rfl ?_
    refine g_sub [2, 3, 1, 0] rfl ?_
    exact kh31 _ _ _ _ hf
  have h72 : ∀ (K31 : Int32 → Int32 → Int32 → SM → Option (Int32 × SM)), (∀ (v3 : Int32) (v4 : Int32) (v5 : Int32) (zs_o : SM), K31 v3 v4 v5 zs_o = some r → gW p l e rm_X12_key s m args below meth c D A 7 (MQ below (QM D (tyL cB cI cJ cZ) (some (.int r.1)) (wX12 o cB cI cJ cZ s_o) (wX12 o cB cI cJ cZ r.2) s.heap.size) args s 0 0 A) 0 0 (wX12 o cB cI cJ cZ zs_o) [(0, .ref (o 0)), (3, .int v3), (4, .int v4), (5, .int v5)] 31 []) → ∀ (v4 : Int32) (v5 : Int32) (v6 : Int32) (zs_o : SM) (k0 : Int32), F_X12_key_b72 x1 x2 K31 v4 v5 v6 zs_o k0 = some r → gW p l e rm_X12_key s m args below meth c D A 7 (MQ below (QM D (tyL cB cI cJ cZ) (some (.int r.1)) (wX12 o cB cI cJ cZ s_o) (wX12 o cB cI cJ cZ r.2) s.heap.size) args s 0 0 A) 0 0 (wX12 o cB cI cJ cZ zs_o) [(0, .ref (o 0)), (4, .int v4), (5, .int v5), (6, .int v6)] 72 [.int k0] := by
    intro K31 kh31 v4 v5 v6 zs_o k0 hf
    rw [F_X12_key_b72] at hf
    refine g_isn cx (L2 := fun v3_3 => [(3, .int v3_3), (0, .ref (o 0)), (4, .int v4), (5, .int v5), (6, .int v6)]) hf dX12_key_72 (Nat.le_of_ble_eq_true rfl) (fun _ => rfl) (fun v3_3 hf => ?_)
    refine g_iln cx 0 dX12_key_73 rfl ?_
    refine g_il cx 3 dX12_key_74 rfl ?_
    refine g_ic_ne (tgt := 84) cx hf dX12_key_76 rfl (fun hf => ?_) (fun hf => ?_)
    · refine g_il cx 2 dX12_key_84 rfl ?_
      refine g_sub [1, 0, 3] rfl ?_
      exact h86 _ kh31 _ _ _ _ hf
    · refine g_il cx 4 dX12_key_79 rfl ?_
      refine g_goto (tgt := 86) cx dX12_key_81 rfl ?_
      refine g_sub [1, 0, 3] rfl ?_
      exact h86 _ kh31 _ _ _ _ hf
  have h66 : ∀ (K31 : Int32 → Int32 → Int32 → SM → Option (Int32 × SM)), (∀ (v3 : Int32) (v4 : Int32) (v5 : Int32) (zs_o : SM), K31 v3 v4 v5 zs_o = some r → gW p l e rm_X12_key s m args below meth c D A 7 (MQ below (QM D (tyL cB cI cJ cZ) (some (.int r.1)) (wX12 o cB cI cJ cZ s_o) (wX12 o cB cI cJ cZ r.2) s.heap.size) args s 0 0 A) 0 0 (wX12 o cB cI cJ cZ zs_o) [(0, .ref (o 0)), (3, .int v3), (4, .int v4), (5, .int v5)] 31 []) → ∀ (v4 : Int32) (v5 : Int32) (v6 : Int32) (zs_o : SM), F_X12_key_b66 x1 x2 K31 v4 v5 v6 zs_o = some r → gW p l e rm_X12_key s m args below meth c D A 7 (MQ below (QM D (tyL cB cI cJ cZ) (some (.int r.1)) (wX12 o cB cI cJ cZ s_o) (wX12 o cB cI cJ cZ r.2) s.heap.size) args s 0 0 A) 0 0 (wX12 o cB cI cJ cZ zs_o) [(0, .ref (o 0)), (4, .int v4), (5, .int v5), (6, .int v6)] 66 [] := by
    intro K31 kh31 v4 v5 v6 zs_o hf
    rw [F_X12_key_b66] at hf
    refine g_il cx 2 dX12_key_66 rfl ?_
    refine g_goto (tgt := 72) cx dX12_key_68 rfl ?_
    exact h72 _ kh31 _ _ _ _ _ hf
  have h31 : ∀ (n : Nat) (v3 : Int32) (v4 : Int32) (v5 : Int32) (zs_o : SM), F_X12_key_b31 x1 x2 n v3 v4 v5 zs_o = some r → gW p l e rm_X12_key s m args below meth c D A 7 (MQ below (QM D (tyL cB cI cJ cZ) (some (.int r.1)) (wX12 o cB cI cJ cZ s_o) (wX12 o cB cI cJ cZ r.2) s.heap.size) args s 0 0 A) 0 0 (wX12 o cB cI cJ cZ zs_o) [(0, .ref (o 0)), (3, .int v3), (4, .int v4), (5, .int v5)] 31 [] := by
    intro n
    induction n with
    | zero => intro v3 v4 v5 zs_o hf; rw [F_X12_key_b31] at hf; cases hf
    | succ n ih =>
      intro v3 v4 v5 zs_o hf
      rw [F_X12_key_b31] at hf
      refine g_il cx 3 dX12_key_31 rfl ?_
      refine g_aln cx 0 dX12_key_33 rfl ?_
      refine mg_many cx dX12_key_34 ?_
      refine g_ic_ge (tgt := 94) cx hf dX12_key_37 rfl (fun hf => ?_) (fun hf => ?_)
      · refine g_iln cx 1 dX12_key_94 rfl ?_
        exact g_iret (ovf := fun (r : Int32 × SM) => (some (.int r.1))) (wf := fun (r : Int32 × SM) => (wX12 o cB cI cJ cZ r.2)) cx hA hr hf rfl rfl dX12_key_95
      · refine g_aln cx 0 dX12_key_40 rfl ?_
        refine g_ic cx dX12_key_41 k_ic1 ?_
        refine g_il cx 3 dX12_key_42 rfl ?_
        refine g_ishl cx dX12_key_44 ?_
        refine ob hf (fun q_4 hq_4 hf => ?_)
        refine g_callVFi cx lk_RX12_220 (c_X12_leftBy l D cB cI cJ cZ o zs_o (1 <<< (v5 &&& 31)) q_4 hq_4) rfl (ci := 10) (q1 := 0) rfl rfl rfl (Nat.le_of_ble_eq_true rfl) ⟨rfl, rfl, Nat.le_of_ble_eq_true rfl, Nat.le_of_ble_eq_true rfl⟩ dX12_key_45 ?_
        refine ob hf (fun q_5 hq_5 hf => ?_)
        refine g_callSiR cx lk_RX12_223 (c_X12_ones l D cB cI cJ cZ q_4.1 q_5 hq_5) rfl [] rfl rfl rfl (Nat.le_of_ble_eq_true rfl) ⟨rfl, rfl, Nat.le_of_ble_eq_true rfl, Nat.le_of_ble_eq_true rfl⟩ dX12_key_48 ?_
        refine g_is cx (L2 := fun v6_6 => [(6, .int v6_6), (0, .ref (o 0)), (3, .int v3), (4, .int v4), (5, .int v5)]) hf dX12_key_51 (Nat.le_of_ble_eq_true rfl) (fun _ => rfl) (fun v6_6 hf => ?_)
        refine g_iln cx 2 dX12_key_53 rfl ?_
        refine g_bp cx dX12_key_54 k_bpm9 ?_
        refine g_ic_eq (tgt := 66) cx hf dX12_key_56 rfl (fun hf => ?_) (fun hf => ?_)
        · refine g_sub [1, 3, 4, 0] rfl ?_
          exact h66 _ ih _ _ _ _ hf
        · refine g_il cx 0 dX12_key_59 rfl ?_
          refine g_il cx 3 dX12_key_61 rfl ?_
          refine g_ic_ge (tgt := 71) cx hf dX12_key_63 rfl (fun hf => ?_) (fun hf => ?_)
          · refine g_iln cx 2 dX12_key_71 rfl ?_
            refine g_sub [1, 3, 4, 0] rfl ?_
            exact h72 _ ih _ _ _ _ _ hf
          · refine g_sub [1, 3, 4, 0] rfl ?_
            exact h66 _ ih _ _ _ _ hf
  rw [F_X12_key] at hf
  refine g_aln cx 0 dX12_key_0 rfl ?_
  refine g_ic cx dX12_key_1 k_ic0 ?_
  refine mp_thrown cx hf dX12_key_2 (fun s_o_7 hf => ?_)
  refine g_aln cx 0 dX12_key_5 rfl ?_
  refine g_iln cx 1 dX12_key_6 rfl ?_
  refine g_iln cx 2 dX12_key_7 rfl ?_
  refine ob hf (fun q_8 hq_8 hf => ?_)
  refine g_callVFi cx lk_RX12_178 (c_X12_isForm l D cB cI cJ cZ o s_o_7 x1 x2 q_8 hq_8) rfl (ci := 10) (q1 := 0) rfl rfl rfl (Nat.le_of_ble_eq_true rfl) ⟨rfl, rfl, Nat.le_of_ble_eq_true rfl, Nat.le_of_ble_eq_true rfl⟩ dX12_key_8 ?_
  refine g_if_ne (tgt := 16) cx hf dX12_key_11 rfl (fun hf => ?_) (fun hf => ?_)
  · refine g_aln cx 0 dX12_key_16 rfl ?_
    refine g_iln cx 1 dX12_key_17 rfl ?_
    refine g_iln cx 2 dX12_key_18 rfl ?_
    refine ob hf (fun q_9 hq_9 hf => ?_)
    refine g_callVFv cx lk_RX12_210 (c_X12_judgesPaper l D cB cI cJ cZ o s_o_7 x1 x2 q_9 hq_9) rfl (ci := 10) (q1 := 0) rfl rfl rfl (Nat.le_of_ble_eq_true rfl) ⟨rfl, rfl, Nat.le_of_ble_eq_true rfl, Nat.le_of_ble_eq_true rfl⟩ dX12_key_19 ?_
    refine g_bp cx dX12_key_22 k_bpm9 ?_
    refine g_isn cx (L2 := fun v3_10 => [(3, .int v3_10), (0, .ref (o 0)), (1, .int x1), (2, .int x2)]) hf dX12_key_24 (Nat.le_of_ble_eq_true rfl) (fun _ => rfl) (fun v3_10 hf => ?_)
    refine g_ic cx dX12_key_25 k_ic0 ?_
    refine g_is cx (L2 := fun v4_11 => [(4, .int v4_11), (3, .int v3_10), (0, .ref (o 0)), (1, .int x1), (2, .int x2)]) hf dX12_key_26 (Nat.le_of_ble_eq_true rfl) (fun _ => rfl) (fun v4_11 hf => ?_)
    refine g_ic cx dX12_key_28 k_ic0 ?_
    refine g_is cx (L2 := fun v5_12 => [(5, .int v5_12), (4, .int v4_11), (3, .int v3_10), (0, .ref (o 0)), (1, .int x1), (2, .int x2)]) hf dX12_key_29 (Nat.le_of_ble_eq_true rfl) (fun _ => rfl) (fun v5_12 hf => ?_)
    refine g_sub [3, 2, 1, 0] rfl ?_
    exact h31 fu _ _ _ _ hf
  · refine g_ic cx dX12_key_14 k_icm1 ?_
    exact g_iret (ovf := fun (r : Int32 × SM) => (some (.int r.1))) (wf := fun (r : Int32 × SM) => (wX12 o cB cI cJ cZ r.2)) cx hA hr hf rfl rfl dX12_key_15
def tX12_fewestOf_22 : List Nat := 167 :: 255 :: 212 :: 21 :: 5 :: 172 :: []
def tX12_fewestOf_21 : List Nat := 180 :: 0 :: 72 :: 21 :: 6 :: 46 :: 167 :: 0 :: 5 :: 21 :: 5 :: 54 :: 5 :: 132 :: 6 :: 1 :: tX12_fewestOf_22
def tX12_fewestOf_20 : List Nat := 164 :: 0 :: 35 :: 42 :: 180 :: 0 :: 72 :: 21 :: 6 :: 46 :: 21 :: 5 :: 162 :: 0 :: 13 :: 42 :: tX12_fewestOf_21
def tX12_fewestOf_19 : List Nat := 5 :: 3 :: 54 :: 6 :: 21 :: 6 :: 42 :: 180 :: 0 :: 166 :: 162 :: 0 :: 41 :: 21 :: 4 :: 4 :: tX12_fewestOf_20
def tX12_fewestOf_18 : List Nat := 167 :: 255 :: 0 :: 21 :: 4 :: 154 :: 0 :: 7 :: 3 :: 167 :: 0 :: 6 :: 17 :: 3 :: 232 :: 54 :: tX12_fewestOf_19
def tX12_fewestOf_17 : List Nat := 21 :: 6 :: 46 :: 79 :: 132 :: 6 :: 1 :: 167 :: 255 :: 230 :: 132 :: 4 :: 1 :: 132 :: 5 :: 1 :: tX12_fewestOf_18
def tX12_fewestOf_16 : List Nat := 180 :: 0 :: 166 :: 162 :: 0 :: 23 :: 42 :: 180 :: 0 :: 72 :: 21 :: 6 :: 42 :: 180 :: 0 :: 75 :: tX12_fewestOf_17
def tX12_fewestOf_15 : List Nat := 1 :: 167 :: 255 :: 138 :: 132 :: 6 :: 1 :: 167 :: 255 :: 64 :: 3 :: 54 :: 6 :: 21 :: 6 :: 42 :: tX12_fewestOf_16
def tX12_fewestOf_14 : List Nat := 8 :: 21 :: 10 :: 167 :: 0 :: 10 :: 42 :: 180 :: 0 :: 75 :: 21 :: 6 :: 46 :: 79 :: 132 :: 8 :: tX12_fewestOf_15
def tX12_fewestOf_13 : List Nat := 21 :: 9 :: 153 :: 0 :: 20 :: 21 :: 10 :: 42 :: 180 :: 0 :: 75 :: 21 :: 6 :: 46 :: 162 :: 0 :: tX12_fewestOf_14
def tX12_fewestOf_12 : List Nat := 0 :: 7 :: 3 :: 167 :: 0 :: 4 :: 4 :: 96 :: 54 :: 10 :: 42 :: 180 :: 0 :: 75 :: 21 :: 6 :: tX12_fewestOf_13
def tX12_fewestOf_11 : List Nat := 8 :: 46 :: 21 :: 6 :: 42 :: 180 :: 0 :: 28 :: 4 :: 6 :: 21 :: 5 :: 104 :: 96 :: 46 :: 160 :: tX12_fewestOf_12
def tX12_fewestOf_10 : List Nat := 6 :: 159 :: 0 :: 7 :: 4 :: 167 :: 0 :: 4 :: 3 :: 54 :: 9 :: 42 :: 180 :: 0 :: 72 :: 21 :: tX12_fewestOf_11
def tX12_fewestOf_9 : List Nat := 21 :: 6 :: 160 :: 0 :: 7 :: 4 :: 167 :: 0 :: 19 :: 3 :: 167 :: 0 :: 15 :: 21 :: 8 :: 21 :: tX12_fewestOf_10
def tX12_fewestOf_8 : List Nat := 166 :: 162 :: 0 :: 115 :: 21 :: 7 :: 153 :: 0 :: 110 :: 21 :: 4 :: 154 :: 0 :: 18 :: 21 :: 8 :: tX12_fewestOf_9
def tX12_fewestOf_7 : List Nat := 7 :: 4 :: 167 :: 0 :: 4 :: 3 :: 54 :: 7 :: 3 :: 54 :: 8 :: 21 :: 8 :: 42 :: 180 :: 0 :: tX12_fewestOf_8
def tX12_fewestOf_6 : List Nat := 46 :: 29 :: 160 :: 0 :: 19 :: 42 :: 27 :: 21 :: 5 :: 21 :: 6 :: 182 :: 0 :: 191 :: 153 :: 0 :: tX12_fewestOf_7
def tX12_fewestOf_5 : List Nat := 46 :: 21 :: 6 :: 122 :: 4 :: 126 :: 4 :: 160 :: 0 :: 30 :: 42 :: 180 :: 0 :: 56 :: 21 :: 6 :: tX12_fewestOf_6
def tX12_fewestOf_4 : List Nat := 42 :: 180 :: 0 :: 75 :: 21 :: 6 :: 17 :: 3 :: 232 :: 79 :: 42 :: 180 :: 0 :: 59 :: 21 :: 5 :: tX12_fewestOf_5
def tX12_fewestOf_3 : List Nat := 28 :: 160 :: 0 :: 236 :: 3 :: 54 :: 6 :: 21 :: 6 :: 42 :: 180 :: 0 :: 166 :: 162 :: 0 :: 189 :: tX12_fewestOf_4
def tX12_fewestOf_2 : List Nat := 21 :: 5 :: 42 :: 180 :: 0 :: 188 :: 162 :: 0 :: 253 :: 42 :: 27 :: 21 :: 5 :: 182 :: 0 :: 182 :: tX12_fewestOf_3
def tX12_fewestOf_1 : List Nat := 180 :: 0 :: 72 :: 21 :: 5 :: 3 :: 79 :: 132 :: 5 :: 1 :: 167 :: 255 :: 236 :: 3 :: 54 :: 5 :: tX12_fewestOf_2
def tX12_fewestOf_0 : List Nat := 3 :: 54 :: 4 :: 3 :: 54 :: 5 :: 21 :: 5 :: 42 :: 180 :: 0 :: 166 :: 162 :: 0 :: 17 :: 42 :: tX12_fewestOf_1
theorem tX12_fewestOff_0 : (cX12_fewestOf.data.toList.map UInt8.toNat).drop 0 = tX12_fewestOf_0 := by decide +kernel
theorem tX12_fewestOff_1 : (cX12_fewestOf.data.toList.map UInt8.toNat).drop 16 = tX12_fewestOf_1 := fd_next (k := 0) tX12_fewestOff_0 rfl
theorem tX12_fewestOff_2 : (cX12_fewestOf.data.toList.map UInt8.toNat).drop 32 = tX12_fewestOf_2 := fd_next (k := 16) tX12_fewestOff_1 rfl
theorem tX12_fewestOff_3 : (cX12_fewestOf.data.toList.map UInt8.toNat).drop 48 = tX12_fewestOf_3 := fd_next (k := 32) tX12_fewestOff_2 rfl
theorem tX12_fewestOff_4 : (cX12_fewestOf.data.toList.map UInt8.toNat).drop 64 = tX12_fewestOf_4 := fd_next (k := 48) tX12_fewestOff_3 rfl
theorem tX12_fewestOff_5 : (cX12_fewestOf.data.toList.map UInt8.toNat).drop 80 = tX12_fewestOf_5 := fd_next (k := 64) tX12_fewestOff_4 rfl
theorem tX12_fewestOff_6 : (cX12_fewestOf.data.toList.map UInt8.toNat).drop 96 = tX12_fewestOf_6 := fd_next (k := 80) tX12_fewestOff_5 rfl
theorem tX12_fewestOff_7 : (cX12_fewestOf.data.toList.map UInt8.toNat).drop 112 = tX12_fewestOf_7 := fd_next (k := 96) tX12_fewestOff_6 rfl
theorem tX12_fewestOff_8 : (cX12_fewestOf.data.toList.map UInt8.toNat).drop 128 = tX12_fewestOf_8 := fd_next (k := 112) tX12_fewestOff_7 rfl
theorem tX12_fewestOff_9 : (cX12_fewestOf.data.toList.map UInt8.toNat).drop 144 = tX12_fewestOf_9 := fd_next (k := 128) tX12_fewestOff_8 rfl
theorem tX12_fewestOff_10 : (cX12_fewestOf.data.toList.map UInt8.toNat).drop 160 = tX12_fewestOf_10 := fd_next (k := 144) tX12_fewestOff_9 rfl
theorem tX12_fewestOff_11 : (cX12_fewestOf.data.toList.map UInt8.toNat).drop 176 = tX12_fewestOf_11 := fd_next (k := 160) tX12_fewestOff_10 rfl
theorem tX12_fewestOff_12 : (cX12_fewestOf.data.toList.map UInt8.toNat).drop 192 = tX12_fewestOf_12 := fd_next (k := 176) tX12_fewestOff_11 rfl
theorem tX12_fewestOff_13 : (cX12_fewestOf.data.toList.map UInt8.toNat).drop 208 = tX12_fewestOf_13 := fd_next (k := 192) tX12_fewestOff_12 rfl
theorem tX12_fewestOff_14 : (cX12_fewestOf.data.toList.map UInt8.toNat).drop 224 = tX12_fewestOf_14 := fd_next (k := 208) tX12_fewestOff_13 rfl
theorem tX12_fewestOff_15 : (cX12_fewestOf.data.toList.map UInt8.toNat).drop 240 = tX12_fewestOf_15 := fd_next (k := 224) tX12_fewestOff_14 rfl
theorem tX12_fewestOff_16 : (cX12_fewestOf.data.toList.map UInt8.toNat).drop 256 = tX12_fewestOf_16 := fd_next (k := 240) tX12_fewestOff_15 rfl
theorem tX12_fewestOff_17 : (cX12_fewestOf.data.toList.map UInt8.toNat).drop 272 = tX12_fewestOf_17 := fd_next (k := 256) tX12_fewestOff_16 rfl
theorem tX12_fewestOff_18 : (cX12_fewestOf.data.toList.map UInt8.toNat).drop 288 = tX12_fewestOf_18 := fd_next (k := 272) tX12_fewestOff_17 rfl
theorem tX12_fewestOff_19 : (cX12_fewestOf.data.toList.map UInt8.toNat).drop 304 = tX12_fewestOf_19 := fd_next (k := 288) tX12_fewestOff_18 rfl
theorem tX12_fewestOff_20 : (cX12_fewestOf.data.toList.map UInt8.toNat).drop 320 = tX12_fewestOf_20 := fd_next (k := 304) tX12_fewestOff_19 rfl
theorem tX12_fewestOff_21 : (cX12_fewestOf.data.toList.map UInt8.toNat).drop 336 = tX12_fewestOf_21 := fd_next (k := 320) tX12_fewestOff_20 rfl
theorem tX12_fewestOff_22 : (cX12_fewestOf.data.toList.map UInt8.toNat).drop 352 = tX12_fewestOf_22 := fd_next (k := 336) tX12_fewestOff_21 rfl
theorem dX12_fewestOf_0 : decode cX12_fewestOf 0 = .ok (.iconst 0, 1) := dk_3 (fdB_of (k := 0) tX12_fewestOff_0 0 3 rfl)
theorem dX12_fewestOf_1 : decode cX12_fewestOf 1 = .ok (.istore 4, 2) := dk_54 (fdB_of (k := 0) tX12_fewestOff_0 1 54 rfl) (fdB_of (k := 0) tX12_fewestOff_0 2 4 rfl)
theorem dX12_fewestOf_3 : decode cX12_fewestOf 3 = .ok (.iconst 0, 1) := dk_3 (fdB_of (k := 0) tX12_fewestOff_0 3 3 rfl)
theorem dX12_fewestOf_4 : decode cX12_fewestOf 4 = .ok (.istore 5, 2) := dk_54 (fdB_of (k := 0) tX12_fewestOff_0 4 54 rfl) (fdB_of (k := 0) tX12_fewestOff_0 5 5 rfl)
theorem dX12_fewestOf_6 : decode cX12_fewestOf 6 = .ok (.iload 5, 2) := dk_21 (fdB_of (k := 0) tX12_fewestOff_0 6 21 rfl) (fdB_of (k := 0) tX12_fewestOff_0 7 5 rfl)
theorem dX12_fewestOf_8 : decode cX12_fewestOf 8 = .ok (.aload_n 0, 1) := dk_42 (fdB_of (k := 0) tX12_fewestOff_0 8 42 rfl)
theorem dX12_fewestOf_9 : decode cX12_fewestOf 9 = .ok (.getfield 166, 3) := dk_180 (fdB_of (k := 0) tX12_fewestOff_0 9 180 rfl) (fdB_of (k := 0) tX12_fewestOff_0 10 0 rfl) (fdB_of (k := 0) tX12_fewestOff_0 11 166 rfl)
theorem dX12_fewestOf_12 : decode cX12_fewestOf 12 = .ok (.if_icmp .ge 17, 3) := dk_162 (fdB_of (k := 0) tX12_fewestOff_0 12 162 rfl) (fdB_of (k := 0) tX12_fewestOff_0 13 0 rfl) (fdB_of (k := 0) tX12_fewestOff_0 14 17 rfl) (by decide +kernel)
theorem dX12_fewestOf_15 : decode cX12_fewestOf 15 = .ok (.aload_n 0, 1) := dk_42 (fdB_of (k := 0) tX12_fewestOff_0 15 42 rfl)
theorem dX12_fewestOf_16 : decode cX12_fewestOf 16 = .ok (.getfield 72, 3) := dk_180 (fdB_of (k := 16) tX12_fewestOff_1 0 180 rfl) (fdB_of (k := 16) tX12_fewestOff_1 1 0 rfl) (fdB_of (k := 16) tX12_fewestOff_1 2 72 rfl)
theorem dX12_fewestOf_19 : decode cX12_fewestOf 19 = .ok (.iload 5, 2) := dk_21 (fdB_of (k := 16) tX12_fewestOff_1 3 21 rfl) (fdB_of (k := 16) tX12_fewestOff_1 4 5 rfl)
theorem dX12_fewestOf_21 : decode cX12_fewestOf 21 = .ok (.iconst 0, 1) := dk_3 (fdB_of (k := 16) tX12_fewestOff_1 5 3 rfl)
theorem dX12_fewestOf_22 : decode cX12_fewestOf 22 = .ok (.iastore, 1) := dk_79 (fdB_of (k := 16) tX12_fewestOff_1 6 79 rfl)
theorem dX12_fewestOf_23 : decode cX12_fewestOf 23 = .ok (.iinc 5 1, 3) := dk_132 (fdB_of (k := 16) tX12_fewestOff_1 7 132 rfl) (fdB_of (k := 16) tX12_fewestOff_1 8 5 rfl) (fdB_of (k := 16) tX12_fewestOff_1 9 1 rfl) (by decide +kernel)
theorem dX12_fewestOf_26 : decode cX12_fewestOf 26 = .ok (.goto (-20), 3) := dk_167 (fdB_of (k := 16) tX12_fewestOff_1 10 167 rfl) (fdB_of (k := 16) tX12_fewestOff_1 11 255 rfl) (fdB_of (k := 16) tX12_fewestOff_1 12 236 rfl) (by decide +kernel)
theorem dX12_fewestOf_29 : decode cX12_fewestOf 29 = .ok (.iconst 0, 1) := dk_3 (fdB_of (k := 16) tX12_fewestOff_1 13 3 rfl)
theorem dX12_fewestOf_30 : decode cX12_fewestOf 30 = .ok (.istore 5, 2) := dk_54 (fdB_of (k := 16) tX12_fewestOff_1 14 54 rfl) (fdB_of (k := 16) tX12_fewestOff_1 15 5 rfl)
theorem dX12_fewestOf_32 : decode cX12_fewestOf 32 = .ok (.iload 5, 2) := dk_21 (fdB_of (k := 32) tX12_fewestOff_2 0 21 rfl) (fdB_of (k := 32) tX12_fewestOff_2 1 5 rfl)
theorem dX12_fewestOf_34 : decode cX12_fewestOf 34 = .ok (.aload_n 0, 1) := dk_42 (fdB_of (k := 32) tX12_fewestOff_2 2 42 rfl)
theorem dX12_fewestOf_35 : decode cX12_fewestOf 35 = .ok (.getfield 188, 3) := dk_180 (fdB_of (k := 32) tX12_fewestOff_2 3 180 rfl) (fdB_of (k := 32) tX12_fewestOff_2 4 0 rfl) (fdB_of (k := 32) tX12_fewestOff_2 5 188 rfl)
theorem dX12_fewestOf_38 : decode cX12_fewestOf 38 = .ok (.if_icmp .ge 253, 3) := dk_162 (fdB_of (k := 32) tX12_fewestOff_2 6 162 rfl) (fdB_of (k := 32) tX12_fewestOff_2 7 0 rfl) (fdB_of (k := 32) tX12_fewestOff_2 8 253 rfl) (by decide +kernel)
theorem dX12_fewestOf_41 : decode cX12_fewestOf 41 = .ok (.aload_n 0, 1) := dk_42 (fdB_of (k := 32) tX12_fewestOff_2 9 42 rfl)
theorem dX12_fewestOf_42 : decode cX12_fewestOf 42 = .ok (.iload_n 1, 1) := dk_27 (fdB_of (k := 32) tX12_fewestOff_2 10 27 rfl)
theorem dX12_fewestOf_43 : decode cX12_fewestOf 43 = .ok (.iload 5, 2) := dk_21 (fdB_of (k := 32) tX12_fewestOff_2 11 21 rfl) (fdB_of (k := 32) tX12_fewestOff_2 12 5 rfl)
theorem dX12_fewestOf_45 : decode cX12_fewestOf 45 = .ok (.invokevirtual 182, 3) := dk_182 (fdB_of (k := 32) tX12_fewestOff_2 13 182 rfl) (fdB_of (k := 32) tX12_fewestOff_2 14 0 rfl) (fdB_of (k := 32) tX12_fewestOff_2 15 182 rfl)
theorem dX12_fewestOf_48 : decode cX12_fewestOf 48 = .ok (.iload_n 2, 1) := dk_28 (fdB_of (k := 48) tX12_fewestOff_3 0 28 rfl)
theorem dX12_fewestOf_49 : decode cX12_fewestOf 49 = .ok (.if_icmp .ne 236, 3) := dk_160 (fdB_of (k := 48) tX12_fewestOff_3 1 160 rfl) (fdB_of (k := 48) tX12_fewestOff_3 2 0 rfl) (fdB_of (k := 48) tX12_fewestOff_3 3 236 rfl) (by decide +kernel)
theorem dX12_fewestOf_52 : decode cX12_fewestOf 52 = .ok (.iconst 0, 1) := dk_3 (fdB_of (k := 48) tX12_fewestOff_3 4 3 rfl)
theorem dX12_fewestOf_53 : decode cX12_fewestOf 53 = .ok (.istore 6, 2) := dk_54 (fdB_of (k := 48) tX12_fewestOff_3 5 54 rfl) (fdB_of (k := 48) tX12_fewestOff_3 6 6 rfl)
theorem dX12_fewestOf_55 : decode cX12_fewestOf 55 = .ok (.iload 6, 2) := dk_21 (fdB_of (k := 48) tX12_fewestOff_3 7 21 rfl) (fdB_of (k := 48) tX12_fewestOff_3 8 6 rfl)
theorem dX12_fewestOf_57 : decode cX12_fewestOf 57 = .ok (.aload_n 0, 1) := dk_42 (fdB_of (k := 48) tX12_fewestOff_3 9 42 rfl)
theorem dX12_fewestOf_58 : decode cX12_fewestOf 58 = .ok (.getfield 166, 3) := dk_180 (fdB_of (k := 48) tX12_fewestOff_3 10 180 rfl) (fdB_of (k := 48) tX12_fewestOff_3 11 0 rfl) (fdB_of (k := 48) tX12_fewestOff_3 12 166 rfl)
theorem dX12_fewestOf_61 : decode cX12_fewestOf 61 = .ok (.if_icmp .ge 189, 3) := dk_162 (fdB_of (k := 48) tX12_fewestOff_3 13 162 rfl) (fdB_of (k := 48) tX12_fewestOff_3 14 0 rfl) (fdB_of (k := 48) tX12_fewestOff_3 15 189 rfl) (by decide +kernel)
theorem dX12_fewestOf_64 : decode cX12_fewestOf 64 = .ok (.aload_n 0, 1) := dk_42 (fdB_of (k := 64) tX12_fewestOff_4 0 42 rfl)
theorem dX12_fewestOf_65 : decode cX12_fewestOf 65 = .ok (.getfield 75, 3) := dk_180 (fdB_of (k := 64) tX12_fewestOff_4 1 180 rfl) (fdB_of (k := 64) tX12_fewestOff_4 2 0 rfl) (fdB_of (k := 64) tX12_fewestOff_4 3 75 rfl)
theorem dX12_fewestOf_68 : decode cX12_fewestOf 68 = .ok (.iload 6, 2) := dk_21 (fdB_of (k := 64) tX12_fewestOff_4 4 21 rfl) (fdB_of (k := 64) tX12_fewestOff_4 5 6 rfl)
theorem dX12_fewestOf_70 : decode cX12_fewestOf 70 = .ok (.sipush 1000, 3) := dk_17 (fdB_of (k := 64) tX12_fewestOff_4 6 17 rfl) (fdB_of (k := 64) tX12_fewestOff_4 7 3 rfl) (fdB_of (k := 64) tX12_fewestOff_4 8 232 rfl) (by decide +kernel)
theorem dX12_fewestOf_73 : decode cX12_fewestOf 73 = .ok (.iastore, 1) := dk_79 (fdB_of (k := 64) tX12_fewestOff_4 9 79 rfl)
theorem dX12_fewestOf_74 : decode cX12_fewestOf 74 = .ok (.aload_n 0, 1) := dk_42 (fdB_of (k := 64) tX12_fewestOff_4 10 42 rfl)
theorem dX12_fewestOf_75 : decode cX12_fewestOf 75 = .ok (.getfield 59, 3) := dk_180 (fdB_of (k := 64) tX12_fewestOff_4 11 180 rfl) (fdB_of (k := 64) tX12_fewestOff_4 12 0 rfl) (fdB_of (k := 64) tX12_fewestOff_4 13 59 rfl)
theorem dX12_fewestOf_78 : decode cX12_fewestOf 78 = .ok (.iload 5, 2) := dk_21 (fdB_of (k := 64) tX12_fewestOff_4 14 21 rfl) (fdB_of (k := 64) tX12_fewestOff_4 15 5 rfl)
theorem dX12_fewestOf_80 : decode cX12_fewestOf 80 = .ok (.iaload, 1) := dk_46 (fdB_of (k := 80) tX12_fewestOff_5 0 46 rfl)
theorem dX12_fewestOf_81 : decode cX12_fewestOf 81 = .ok (.iload 6, 2) := dk_21 (fdB_of (k := 80) tX12_fewestOff_5 1 21 rfl) (fdB_of (k := 80) tX12_fewestOff_5 2 6 rfl)
theorem dX12_fewestOf_83 : decode cX12_fewestOf 83 = .ok (.ishr, 1) := dk_122 (fdB_of (k := 80) tX12_fewestOff_5 3 122 rfl)
theorem dX12_fewestOf_84 : decode cX12_fewestOf 84 = .ok (.iconst 1, 1) := dk_4 (fdB_of (k := 80) tX12_fewestOff_5 4 4 rfl)
theorem dX12_fewestOf_85 : decode cX12_fewestOf 85 = .ok (.iand, 1) := dk_126 (fdB_of (k := 80) tX12_fewestOff_5 5 126 rfl)
theorem dX12_fewestOf_86 : decode cX12_fewestOf 86 = .ok (.iconst 1, 1) := dk_4 (fdB_of (k := 80) tX12_fewestOff_5 6 4 rfl)
theorem dX12_fewestOf_87 : decode cX12_fewestOf 87 = .ok (.if_icmp .ne 30, 3) := dk_160 (fdB_of (k := 80) tX12_fewestOff_5 7 160 rfl) (fdB_of (k := 80) tX12_fewestOff_5 8 0 rfl) (fdB_of (k := 80) tX12_fewestOff_5 9 30 rfl) (by decide +kernel)
theorem dX12_fewestOf_90 : decode cX12_fewestOf 90 = .ok (.aload_n 0, 1) := dk_42 (fdB_of (k := 80) tX12_fewestOff_5 10 42 rfl)
theorem dX12_fewestOf_91 : decode cX12_fewestOf 91 = .ok (.getfield 56, 3) := dk_180 (fdB_of (k := 80) tX12_fewestOff_5 11 180 rfl) (fdB_of (k := 80) tX12_fewestOff_5 12 0 rfl) (fdB_of (k := 80) tX12_fewestOff_5 13 56 rfl)
theorem dX12_fewestOf_94 : decode cX12_fewestOf 94 = .ok (.iload 6, 2) := dk_21 (fdB_of (k := 80) tX12_fewestOff_5 14 21 rfl) (fdB_of (k := 80) tX12_fewestOff_5 15 6 rfl)
theorem dX12_fewestOf_96 : decode cX12_fewestOf 96 = .ok (.iaload, 1) := dk_46 (fdB_of (k := 96) tX12_fewestOff_6 0 46 rfl)
theorem dX12_fewestOf_97 : decode cX12_fewestOf 97 = .ok (.iload_n 3, 1) := dk_29 (fdB_of (k := 96) tX12_fewestOff_6 1 29 rfl)
theorem dX12_fewestOf_98 : decode cX12_fewestOf 98 = .ok (.if_icmp .ne 19, 3) := dk_160 (fdB_of (k := 96) tX12_fewestOff_6 2 160 rfl) (fdB_of (k := 96) tX12_fewestOff_6 3 0 rfl) (fdB_of (k := 96) tX12_fewestOff_6 4 19 rfl) (by decide +kernel)
theorem dX12_fewestOf_101 : decode cX12_fewestOf 101 = .ok (.aload_n 0, 1) := dk_42 (fdB_of (k := 96) tX12_fewestOff_6 5 42 rfl)
theorem dX12_fewestOf_102 : decode cX12_fewestOf 102 = .ok (.iload_n 1, 1) := dk_27 (fdB_of (k := 96) tX12_fewestOff_6 6 27 rfl)
theorem dX12_fewestOf_103 : decode cX12_fewestOf 103 = .ok (.iload 5, 2) := dk_21 (fdB_of (k := 96) tX12_fewestOff_6 7 21 rfl) (fdB_of (k := 96) tX12_fewestOff_6 8 5 rfl)
theorem dX12_fewestOf_105 : decode cX12_fewestOf 105 = .ok (.iload 6, 2) := dk_21 (fdB_of (k := 96) tX12_fewestOff_6 9 21 rfl) (fdB_of (k := 96) tX12_fewestOff_6 10 6 rfl)
theorem dX12_fewestOf_107 : decode cX12_fewestOf 107 = .ok (.invokevirtual 191, 3) := dk_182 (fdB_of (k := 96) tX12_fewestOff_6 11 182 rfl) (fdB_of (k := 96) tX12_fewestOff_6 12 0 rfl) (fdB_of (k := 96) tX12_fewestOff_6 13 191 rfl)
theorem dX12_fewestOf_110 : decode cX12_fewestOf 110 = .ok (.ifCond .eq 7, 3) := dk_153 (fdB_of (k := 96) tX12_fewestOff_6 14 153 rfl) (fdB_of (k := 96) tX12_fewestOff_6 15 0 rfl) (fdB_of (k := 112) tX12_fewestOff_7 0 7 rfl) (by decide +kernel)
theorem dX12_fewestOf_113 : decode cX12_fewestOf 113 = .ok (.iconst 1, 1) := dk_4 (fdB_of (k := 112) tX12_fewestOff_7 1 4 rfl)
theorem dX12_fewestOf_114 : decode cX12_fewestOf 114 = .ok (.goto 4, 3) := dk_167 (fdB_of (k := 112) tX12_fewestOff_7 2 167 rfl) (fdB_of (k := 112) tX12_fewestOff_7 3 0 rfl) (fdB_of (k := 112) tX12_fewestOff_7 4 4 rfl) (by decide +kernel)
theorem dX12_fewestOf_117 : decode cX12_fewestOf 117 = .ok (.iconst 0, 1) := dk_3 (fdB_of (k := 112) tX12_fewestOff_7 5 3 rfl)
theorem dX12_fewestOf_118 : decode cX12_fewestOf 118 = .ok (.istore 7, 2) := dk_54 (fdB_of (k := 112) tX12_fewestOff_7 6 54 rfl) (fdB_of (k := 112) tX12_fewestOff_7 7 7 rfl)
theorem dX12_fewestOf_120 : decode cX12_fewestOf 120 = .ok (.iconst 0, 1) := dk_3 (fdB_of (k := 112) tX12_fewestOff_7 8 3 rfl)
theorem dX12_fewestOf_121 : decode cX12_fewestOf 121 = .ok (.istore 8, 2) := dk_54 (fdB_of (k := 112) tX12_fewestOff_7 9 54 rfl) (fdB_of (k := 112) tX12_fewestOff_7 10 8 rfl)
theorem dX12_fewestOf_123 : decode cX12_fewestOf 123 = .ok (.iload 8, 2) := dk_21 (fdB_of (k := 112) tX12_fewestOff_7 11 21 rfl) (fdB_of (k := 112) tX12_fewestOff_7 12 8 rfl)
theorem dX12_fewestOf_125 : decode cX12_fewestOf 125 = .ok (.aload_n 0, 1) := dk_42 (fdB_of (k := 112) tX12_fewestOff_7 13 42 rfl)
theorem dX12_fewestOf_126 : decode cX12_fewestOf 126 = .ok (.getfield 166, 3) := dk_180 (fdB_of (k := 112) tX12_fewestOff_7 14 180 rfl) (fdB_of (k := 112) tX12_fewestOff_7 15 0 rfl) (fdB_of (k := 128) tX12_fewestOff_8 0 166 rfl)
theorem dX12_fewestOf_129 : decode cX12_fewestOf 129 = .ok (.if_icmp .ge 115, 3) := dk_162 (fdB_of (k := 128) tX12_fewestOff_8 1 162 rfl) (fdB_of (k := 128) tX12_fewestOff_8 2 0 rfl) (fdB_of (k := 128) tX12_fewestOff_8 3 115 rfl) (by decide +kernel)
theorem dX12_fewestOf_132 : decode cX12_fewestOf 132 = .ok (.iload 7, 2) := dk_21 (fdB_of (k := 128) tX12_fewestOff_8 4 21 rfl) (fdB_of (k := 128) tX12_fewestOff_8 5 7 rfl)
theorem dX12_fewestOf_134 : decode cX12_fewestOf 134 = .ok (.ifCond .eq 110, 3) := dk_153 (fdB_of (k := 128) tX12_fewestOff_8 6 153 rfl) (fdB_of (k := 128) tX12_fewestOff_8 7 0 rfl) (fdB_of (k := 128) tX12_fewestOff_8 8 110 rfl) (by decide +kernel)
theorem dX12_fewestOf_137 : decode cX12_fewestOf 137 = .ok (.iload 4, 2) := dk_21 (fdB_of (k := 128) tX12_fewestOff_8 9 21 rfl) (fdB_of (k := 128) tX12_fewestOff_8 10 4 rfl)
theorem dX12_fewestOf_139 : decode cX12_fewestOf 139 = .ok (.ifCond .ne 18, 3) := dk_154 (fdB_of (k := 128) tX12_fewestOff_8 11 154 rfl) (fdB_of (k := 128) tX12_fewestOff_8 12 0 rfl) (fdB_of (k := 128) tX12_fewestOff_8 13 18 rfl) (by decide +kernel)
theorem dX12_fewestOf_142 : decode cX12_fewestOf 142 = .ok (.iload 8, 2) := dk_21 (fdB_of (k := 128) tX12_fewestOff_8 14 21 rfl) (fdB_of (k := 128) tX12_fewestOff_8 15 8 rfl)
theorem dX12_fewestOf_144 : decode cX12_fewestOf 144 = .ok (.iload 6, 2) := dk_21 (fdB_of (k := 144) tX12_fewestOff_9 0 21 rfl) (fdB_of (k := 144) tX12_fewestOff_9 1 6 rfl)
theorem dX12_fewestOf_146 : decode cX12_fewestOf 146 = .ok (.if_icmp .ne 7, 3) := dk_160 (fdB_of (k := 144) tX12_fewestOff_9 2 160 rfl) (fdB_of (k := 144) tX12_fewestOff_9 3 0 rfl) (fdB_of (k := 144) tX12_fewestOff_9 4 7 rfl) (by decide +kernel)
theorem dX12_fewestOf_149 : decode cX12_fewestOf 149 = .ok (.iconst 1, 1) := dk_4 (fdB_of (k := 144) tX12_fewestOff_9 5 4 rfl)
theorem dX12_fewestOf_150 : decode cX12_fewestOf 150 = .ok (.goto 19, 3) := dk_167 (fdB_of (k := 144) tX12_fewestOff_9 6 167 rfl) (fdB_of (k := 144) tX12_fewestOff_9 7 0 rfl) (fdB_of (k := 144) tX12_fewestOff_9 8 19 rfl) (by decide +kernel)
theorem dX12_fewestOf_153 : decode cX12_fewestOf 153 = .ok (.iconst 0, 1) := dk_3 (fdB_of (k := 144) tX12_fewestOff_9 9 3 rfl)
theorem dX12_fewestOf_154 : decode cX12_fewestOf 154 = .ok (.goto 15, 3) := dk_167 (fdB_of (k := 144) tX12_fewestOff_9 10 167 rfl) (fdB_of (k := 144) tX12_fewestOff_9 11 0 rfl) (fdB_of (k := 144) tX12_fewestOff_9 12 15 rfl) (by decide +kernel)
theorem dX12_fewestOf_157 : decode cX12_fewestOf 157 = .ok (.iload 8, 2) := dk_21 (fdB_of (k := 144) tX12_fewestOff_9 13 21 rfl) (fdB_of (k := 144) tX12_fewestOff_9 14 8 rfl)
theorem dX12_fewestOf_159 : decode cX12_fewestOf 159 = .ok (.iload 6, 2) := dk_21 (fdB_of (k := 144) tX12_fewestOff_9 15 21 rfl) (fdB_of (k := 160) tX12_fewestOff_10 0 6 rfl)
theorem dX12_fewestOf_161 : decode cX12_fewestOf 161 = .ok (.if_icmp .eq 7, 3) := dk_159 (fdB_of (k := 160) tX12_fewestOff_10 1 159 rfl) (fdB_of (k := 160) tX12_fewestOff_10 2 0 rfl) (fdB_of (k := 160) tX12_fewestOff_10 3 7 rfl) (by decide +kernel)
theorem dX12_fewestOf_164 : decode cX12_fewestOf 164 = .ok (.iconst 1, 1) := dk_4 (fdB_of (k := 160) tX12_fewestOff_10 4 4 rfl)
theorem dX12_fewestOf_165 : decode cX12_fewestOf 165 = .ok (.goto 4, 3) := dk_167 (fdB_of (k := 160) tX12_fewestOff_10 5 167 rfl) (fdB_of (k := 160) tX12_fewestOff_10 6 0 rfl) (fdB_of (k := 160) tX12_fewestOff_10 7 4 rfl) (by decide +kernel)
theorem dX12_fewestOf_168 : decode cX12_fewestOf 168 = .ok (.iconst 0, 1) := dk_3 (fdB_of (k := 160) tX12_fewestOff_10 8 3 rfl)
theorem dX12_fewestOf_169 : decode cX12_fewestOf 169 = .ok (.istore 9, 2) := dk_54 (fdB_of (k := 160) tX12_fewestOff_10 9 54 rfl) (fdB_of (k := 160) tX12_fewestOff_10 10 9 rfl)
theorem dX12_fewestOf_171 : decode cX12_fewestOf 171 = .ok (.aload_n 0, 1) := dk_42 (fdB_of (k := 160) tX12_fewestOff_10 11 42 rfl)
theorem dX12_fewestOf_172 : decode cX12_fewestOf 172 = .ok (.getfield 72, 3) := dk_180 (fdB_of (k := 160) tX12_fewestOff_10 12 180 rfl) (fdB_of (k := 160) tX12_fewestOff_10 13 0 rfl) (fdB_of (k := 160) tX12_fewestOff_10 14 72 rfl)
theorem dX12_fewestOf_175 : decode cX12_fewestOf 175 = .ok (.iload 8, 2) := dk_21 (fdB_of (k := 160) tX12_fewestOff_10 15 21 rfl) (fdB_of (k := 176) tX12_fewestOff_11 0 8 rfl)
theorem dX12_fewestOf_177 : decode cX12_fewestOf 177 = .ok (.iaload, 1) := dk_46 (fdB_of (k := 176) tX12_fewestOff_11 1 46 rfl)
theorem dX12_fewestOf_178 : decode cX12_fewestOf 178 = .ok (.iload 6, 2) := dk_21 (fdB_of (k := 176) tX12_fewestOff_11 2 21 rfl) (fdB_of (k := 176) tX12_fewestOff_11 3 6 rfl)
theorem dX12_fewestOf_180 : decode cX12_fewestOf 180 = .ok (.aload_n 0, 1) := dk_42 (fdB_of (k := 176) tX12_fewestOff_11 4 42 rfl)
theorem dX12_fewestOf_181 : decode cX12_fewestOf 181 = .ok (.getfield 28, 3) := dk_180 (fdB_of (k := 176) tX12_fewestOff_11 5 180 rfl) (fdB_of (k := 176) tX12_fewestOff_11 6 0 rfl) (fdB_of (k := 176) tX12_fewestOff_11 7 28 rfl)
theorem dX12_fewestOf_184 : decode cX12_fewestOf 184 = .ok (.iconst 1, 1) := dk_4 (fdB_of (k := 176) tX12_fewestOff_11 8 4 rfl)
theorem dX12_fewestOf_185 : decode cX12_fewestOf 185 = .ok (.iconst 3, 1) := dk_6 (fdB_of (k := 176) tX12_fewestOff_11 9 6 rfl)
theorem dX12_fewestOf_186 : decode cX12_fewestOf 186 = .ok (.iload 5, 2) := dk_21 (fdB_of (k := 176) tX12_fewestOff_11 10 21 rfl) (fdB_of (k := 176) tX12_fewestOff_11 11 5 rfl)
theorem dX12_fewestOf_188 : decode cX12_fewestOf 188 = .ok (.imul, 1) := dk_104 (fdB_of (k := 176) tX12_fewestOff_11 12 104 rfl)
theorem dX12_fewestOf_189 : decode cX12_fewestOf 189 = .ok (.iadd, 1) := dk_96 (fdB_of (k := 176) tX12_fewestOff_11 13 96 rfl)
theorem dX12_fewestOf_190 : decode cX12_fewestOf 190 = .ok (.iaload, 1) := dk_46 (fdB_of (k := 176) tX12_fewestOff_11 14 46 rfl)
theorem dX12_fewestOf_191 : decode cX12_fewestOf 191 = .ok (.if_icmp .ne 7, 3) := dk_160 (fdB_of (k := 176) tX12_fewestOff_11 15 160 rfl) (fdB_of (k := 192) tX12_fewestOff_12 0 0 rfl) (fdB_of (k := 192) tX12_fewestOff_12 1 7 rfl) (by decide +kernel)
theorem dX12_fewestOf_194 : decode cX12_fewestOf 194 = .ok (.iconst 0, 1) := dk_3 (fdB_of (k := 192) tX12_fewestOff_12 2 3 rfl)
theorem dX12_fewestOf_195 : decode cX12_fewestOf 195 = .ok (.goto 4, 3) := dk_167 (fdB_of (k := 192) tX12_fewestOff_12 3 167 rfl) (fdB_of (k := 192) tX12_fewestOff_12 4 0 rfl) (fdB_of (k := 192) tX12_fewestOff_12 5 4 rfl) (by decide +kernel)
theorem dX12_fewestOf_198 : decode cX12_fewestOf 198 = .ok (.iconst 1, 1) := dk_4 (fdB_of (k := 192) tX12_fewestOff_12 6 4 rfl)
theorem dX12_fewestOf_199 : decode cX12_fewestOf 199 = .ok (.iadd, 1) := dk_96 (fdB_of (k := 192) tX12_fewestOff_12 7 96 rfl)
theorem dX12_fewestOf_200 : decode cX12_fewestOf 200 = .ok (.istore 10, 2) := dk_54 (fdB_of (k := 192) tX12_fewestOff_12 8 54 rfl) (fdB_of (k := 192) tX12_fewestOff_12 9 10 rfl)
theorem dX12_fewestOf_202 : decode cX12_fewestOf 202 = .ok (.aload_n 0, 1) := dk_42 (fdB_of (k := 192) tX12_fewestOff_12 10 42 rfl)
theorem dX12_fewestOf_203 : decode cX12_fewestOf 203 = .ok (.getfield 75, 3) := dk_180 (fdB_of (k := 192) tX12_fewestOff_12 11 180 rfl) (fdB_of (k := 192) tX12_fewestOff_12 12 0 rfl) (fdB_of (k := 192) tX12_fewestOff_12 13 75 rfl)
theorem dX12_fewestOf_206 : decode cX12_fewestOf 206 = .ok (.iload 6, 2) := dk_21 (fdB_of (k := 192) tX12_fewestOff_12 14 21 rfl) (fdB_of (k := 192) tX12_fewestOff_12 15 6 rfl)
theorem dX12_fewestOf_208 : decode cX12_fewestOf 208 = .ok (.iload 9, 2) := dk_21 (fdB_of (k := 208) tX12_fewestOff_13 0 21 rfl) (fdB_of (k := 208) tX12_fewestOff_13 1 9 rfl)
theorem dX12_fewestOf_210 : decode cX12_fewestOf 210 = .ok (.ifCond .eq 20, 3) := dk_153 (fdB_of (k := 208) tX12_fewestOff_13 2 153 rfl) (fdB_of (k := 208) tX12_fewestOff_13 3 0 rfl) (fdB_of (k := 208) tX12_fewestOff_13 4 20 rfl) (by decide +kernel)
theorem dX12_fewestOf_213 : decode cX12_fewestOf 213 = .ok (.iload 10, 2) := dk_21 (fdB_of (k := 208) tX12_fewestOff_13 5 21 rfl) (fdB_of (k := 208) tX12_fewestOff_13 6 10 rfl)
theorem dX12_fewestOf_215 : decode cX12_fewestOf 215 = .ok (.aload_n 0, 1) := dk_42 (fdB_of (k := 208) tX12_fewestOff_13 7 42 rfl)
theorem dX12_fewestOf_216 : decode cX12_fewestOf 216 = .ok (.getfield 75, 3) := dk_180 (fdB_of (k := 208) tX12_fewestOff_13 8 180 rfl) (fdB_of (k := 208) tX12_fewestOff_13 9 0 rfl) (fdB_of (k := 208) tX12_fewestOff_13 10 75 rfl)
theorem dX12_fewestOf_219 : decode cX12_fewestOf 219 = .ok (.iload 6, 2) := dk_21 (fdB_of (k := 208) tX12_fewestOff_13 11 21 rfl) (fdB_of (k := 208) tX12_fewestOff_13 12 6 rfl)
theorem dX12_fewestOf_221 : decode cX12_fewestOf 221 = .ok (.iaload, 1) := dk_46 (fdB_of (k := 208) tX12_fewestOff_13 13 46 rfl)
theorem dX12_fewestOf_222 : decode cX12_fewestOf 222 = .ok (.if_icmp .ge 8, 3) := dk_162 (fdB_of (k := 208) tX12_fewestOff_13 14 162 rfl) (fdB_of (k := 208) tX12_fewestOff_13 15 0 rfl) (fdB_of (k := 224) tX12_fewestOff_14 0 8 rfl) (by decide +kernel)
theorem dX12_fewestOf_225 : decode cX12_fewestOf 225 = .ok (.iload 10, 2) := dk_21 (fdB_of (k := 224) tX12_fewestOff_14 1 21 rfl) (fdB_of (k := 224) tX12_fewestOff_14 2 10 rfl)
theorem dX12_fewestOf_227 : decode cX12_fewestOf 227 = .ok (.goto 10, 3) := dk_167 (fdB_of (k := 224) tX12_fewestOff_14 3 167 rfl) (fdB_of (k := 224) tX12_fewestOff_14 4 0 rfl) (fdB_of (k := 224) tX12_fewestOff_14 5 10 rfl) (by decide +kernel)
theorem dX12_fewestOf_230 : decode cX12_fewestOf 230 = .ok (.aload_n 0, 1) := dk_42 (fdB_of (k := 224) tX12_fewestOff_14 6 42 rfl)
theorem dX12_fewestOf_231 : decode cX12_fewestOf 231 = .ok (.getfield 75, 3) := dk_180 (fdB_of (k := 224) tX12_fewestOff_14 7 180 rfl) (fdB_of (k := 224) tX12_fewestOff_14 8 0 rfl) (fdB_of (k := 224) tX12_fewestOff_14 9 75 rfl)
theorem dX12_fewestOf_234 : decode cX12_fewestOf 234 = .ok (.iload 6, 2) := dk_21 (fdB_of (k := 224) tX12_fewestOff_14 10 21 rfl) (fdB_of (k := 224) tX12_fewestOff_14 11 6 rfl)
theorem dX12_fewestOf_236 : decode cX12_fewestOf 236 = .ok (.iaload, 1) := dk_46 (fdB_of (k := 224) tX12_fewestOff_14 12 46 rfl)
theorem dX12_fewestOf_237 : decode cX12_fewestOf 237 = .ok (.iastore, 1) := dk_79 (fdB_of (k := 224) tX12_fewestOff_14 13 79 rfl)
theorem dX12_fewestOf_238 : decode cX12_fewestOf 238 = .ok (.iinc 8 1, 3) := dk_132 (fdB_of (k := 224) tX12_fewestOff_14 14 132 rfl) (fdB_of (k := 224) tX12_fewestOff_14 15 8 rfl) (fdB_of (k := 240) tX12_fewestOff_15 0 1 rfl) (by decide +kernel)
theorem dX12_fewestOf_241 : decode cX12_fewestOf 241 = .ok (.goto (-118), 3) := dk_167 (fdB_of (k := 240) tX12_fewestOff_15 1 167 rfl) (fdB_of (k := 240) tX12_fewestOff_15 2 255 rfl) (fdB_of (k := 240) tX12_fewestOff_15 3 138 rfl) (by decide +kernel)
theorem dX12_fewestOf_244 : decode cX12_fewestOf 244 = .ok (.iinc 6 1, 3) := dk_132 (fdB_of (k := 240) tX12_fewestOff_15 4 132 rfl) (fdB_of (k := 240) tX12_fewestOff_15 5 6 rfl) (fdB_of (k := 240) tX12_fewestOff_15 6 1 rfl) (by decide +kernel)
theorem dX12_fewestOf_247 : decode cX12_fewestOf 247 = .ok (.goto (-192), 3) := dk_167 (fdB_of (k := 240) tX12_fewestOff_15 7 167 rfl) (fdB_of (k := 240) tX12_fewestOff_15 8 255 rfl) (fdB_of (k := 240) tX12_fewestOff_15 9 64 rfl) (by decide +kernel)
theorem dX12_fewestOf_250 : decode cX12_fewestOf 250 = .ok (.iconst 0, 1) := dk_3 (fdB_of (k := 240) tX12_fewestOff_15 10 3 rfl)
theorem dX12_fewestOf_251 : decode cX12_fewestOf 251 = .ok (.istore 6, 2) := dk_54 (fdB_of (k := 240) tX12_fewestOff_15 11 54 rfl) (fdB_of (k := 240) tX12_fewestOff_15 12 6 rfl)
theorem dX12_fewestOf_253 : decode cX12_fewestOf 253 = .ok (.iload 6, 2) := dk_21 (fdB_of (k := 240) tX12_fewestOff_15 13 21 rfl) (fdB_of (k := 240) tX12_fewestOff_15 14 6 rfl)
theorem dX12_fewestOf_255 : decode cX12_fewestOf 255 = .ok (.aload_n 0, 1) := dk_42 (fdB_of (k := 240) tX12_fewestOff_15 15 42 rfl)
theorem dX12_fewestOf_256 : decode cX12_fewestOf 256 = .ok (.getfield 166, 3) := dk_180 (fdB_of (k := 256) tX12_fewestOff_16 0 180 rfl) (fdB_of (k := 256) tX12_fewestOff_16 1 0 rfl) (fdB_of (k := 256) tX12_fewestOff_16 2 166 rfl)
theorem dX12_fewestOf_259 : decode cX12_fewestOf 259 = .ok (.if_icmp .ge 23, 3) := dk_162 (fdB_of (k := 256) tX12_fewestOff_16 3 162 rfl) (fdB_of (k := 256) tX12_fewestOff_16 4 0 rfl) (fdB_of (k := 256) tX12_fewestOff_16 5 23 rfl) (by decide +kernel)
theorem dX12_fewestOf_262 : decode cX12_fewestOf 262 = .ok (.aload_n 0, 1) := dk_42 (fdB_of (k := 256) tX12_fewestOff_16 6 42 rfl)
theorem dX12_fewestOf_263 : decode cX12_fewestOf 263 = .ok (.getfield 72, 3) := dk_180 (fdB_of (k := 256) tX12_fewestOff_16 7 180 rfl) (fdB_of (k := 256) tX12_fewestOff_16 8 0 rfl) (fdB_of (k := 256) tX12_fewestOff_16 9 72 rfl)
theorem dX12_fewestOf_266 : decode cX12_fewestOf 266 = .ok (.iload 6, 2) := dk_21 (fdB_of (k := 256) tX12_fewestOff_16 10 21 rfl) (fdB_of (k := 256) tX12_fewestOff_16 11 6 rfl)
theorem dX12_fewestOf_268 : decode cX12_fewestOf 268 = .ok (.aload_n 0, 1) := dk_42 (fdB_of (k := 256) tX12_fewestOff_16 12 42 rfl)
theorem dX12_fewestOf_269 : decode cX12_fewestOf 269 = .ok (.getfield 75, 3) := dk_180 (fdB_of (k := 256) tX12_fewestOff_16 13 180 rfl) (fdB_of (k := 256) tX12_fewestOff_16 14 0 rfl) (fdB_of (k := 256) tX12_fewestOff_16 15 75 rfl)
theorem dX12_fewestOf_272 : decode cX12_fewestOf 272 = .ok (.iload 6, 2) := dk_21 (fdB_of (k := 272) tX12_fewestOff_17 0 21 rfl) (fdB_of (k := 272) tX12_fewestOff_17 1 6 rfl)
theorem dX12_fewestOf_274 : decode cX12_fewestOf 274 = .ok (.iaload, 1) := dk_46 (fdB_of (k := 272) tX12_fewestOff_17 2 46 rfl)
theorem dX12_fewestOf_275 : decode cX12_fewestOf 275 = .ok (.iastore, 1) := dk_79 (fdB_of (k := 272) tX12_fewestOff_17 3 79 rfl)
theorem dX12_fewestOf_276 : decode cX12_fewestOf 276 = .ok (.iinc 6 1, 3) := dk_132 (fdB_of (k := 272) tX12_fewestOff_17 4 132 rfl) (fdB_of (k := 272) tX12_fewestOff_17 5 6 rfl) (fdB_of (k := 272) tX12_fewestOff_17 6 1 rfl) (by decide +kernel)
theorem dX12_fewestOf_279 : decode cX12_fewestOf 279 = .ok (.goto (-26), 3) := dk_167 (fdB_of (k := 272) tX12_fewestOff_17 7 167 rfl) (fdB_of (k := 272) tX12_fewestOff_17 8 255 rfl) (fdB_of (k := 272) tX12_fewestOff_17 9 230 rfl) (by decide +kernel)
theorem dX12_fewestOf_282 : decode cX12_fewestOf 282 = .ok (.iinc 4 1, 3) := dk_132 (fdB_of (k := 272) tX12_fewestOff_17 10 132 rfl) (fdB_of (k := 272) tX12_fewestOff_17 11 4 rfl) (fdB_of (k := 272) tX12_fewestOff_17 12 1 rfl) (by decide +kernel)
theorem dX12_fewestOf_285 : decode cX12_fewestOf 285 = .ok (.iinc 5 1, 3) := dk_132 (fdB_of (k := 272) tX12_fewestOff_17 13 132 rfl) (fdB_of (k := 272) tX12_fewestOff_17 14 5 rfl) (fdB_of (k := 272) tX12_fewestOff_17 15 1 rfl) (by decide +kernel)
theorem dX12_fewestOf_288 : decode cX12_fewestOf 288 = .ok (.goto (-256), 3) := dk_167 (fdB_of (k := 288) tX12_fewestOff_18 0 167 rfl) (fdB_of (k := 288) tX12_fewestOff_18 1 255 rfl) (fdB_of (k := 288) tX12_fewestOff_18 2 0 rfl) (by decide +kernel)
theorem dX12_fewestOf_291 : decode cX12_fewestOf 291 = .ok (.iload 4, 2) := dk_21 (fdB_of (k := 288) tX12_fewestOff_18 3 21 rfl) (fdB_of (k := 288) tX12_fewestOff_18 4 4 rfl)
theorem dX12_fewestOf_293 : decode cX12_fewestOf 293 = .ok (.ifCond .ne 7, 3) := dk_154 (fdB_of (k := 288) tX12_fewestOff_18 5 154 rfl) (fdB_of (k := 288) tX12_fewestOff_18 6 0 rfl) (fdB_of (k := 288) tX12_fewestOff_18 7 7 rfl) (by decide +kernel)
theorem dX12_fewestOf_296 : decode cX12_fewestOf 296 = .ok (.iconst 0, 1) := dk_3 (fdB_of (k := 288) tX12_fewestOff_18 8 3 rfl)
theorem dX12_fewestOf_297 : decode cX12_fewestOf 297 = .ok (.goto 6, 3) := dk_167 (fdB_of (k := 288) tX12_fewestOff_18 9 167 rfl) (fdB_of (k := 288) tX12_fewestOff_18 10 0 rfl) (fdB_of (k := 288) tX12_fewestOff_18 11 6 rfl) (by decide +kernel)
theorem dX12_fewestOf_300 : decode cX12_fewestOf 300 = .ok (.sipush 1000, 3) := dk_17 (fdB_of (k := 288) tX12_fewestOff_18 12 17 rfl) (fdB_of (k := 288) tX12_fewestOff_18 13 3 rfl) (fdB_of (k := 288) tX12_fewestOff_18 14 232 rfl) (by decide +kernel)
theorem dX12_fewestOf_303 : decode cX12_fewestOf 303 = .ok (.istore 5, 2) := dk_54 (fdB_of (k := 288) tX12_fewestOff_18 15 54 rfl) (fdB_of (k := 304) tX12_fewestOff_19 0 5 rfl)
theorem dX12_fewestOf_305 : decode cX12_fewestOf 305 = .ok (.iconst 0, 1) := dk_3 (fdB_of (k := 304) tX12_fewestOff_19 1 3 rfl)
theorem dX12_fewestOf_306 : decode cX12_fewestOf 306 = .ok (.istore 6, 2) := dk_54 (fdB_of (k := 304) tX12_fewestOff_19 2 54 rfl) (fdB_of (k := 304) tX12_fewestOff_19 3 6 rfl)
theorem dX12_fewestOf_308 : decode cX12_fewestOf 308 = .ok (.iload 6, 2) := dk_21 (fdB_of (k := 304) tX12_fewestOff_19 4 21 rfl) (fdB_of (k := 304) tX12_fewestOff_19 5 6 rfl)
theorem dX12_fewestOf_310 : decode cX12_fewestOf 310 = .ok (.aload_n 0, 1) := dk_42 (fdB_of (k := 304) tX12_fewestOff_19 6 42 rfl)
theorem dX12_fewestOf_311 : decode cX12_fewestOf 311 = .ok (.getfield 166, 3) := dk_180 (fdB_of (k := 304) tX12_fewestOff_19 7 180 rfl) (fdB_of (k := 304) tX12_fewestOff_19 8 0 rfl) (fdB_of (k := 304) tX12_fewestOff_19 9 166 rfl)
theorem dX12_fewestOf_314 : decode cX12_fewestOf 314 = .ok (.if_icmp .ge 41, 3) := dk_162 (fdB_of (k := 304) tX12_fewestOff_19 10 162 rfl) (fdB_of (k := 304) tX12_fewestOff_19 11 0 rfl) (fdB_of (k := 304) tX12_fewestOff_19 12 41 rfl) (by decide +kernel)
theorem dX12_fewestOf_317 : decode cX12_fewestOf 317 = .ok (.iload 4, 2) := dk_21 (fdB_of (k := 304) tX12_fewestOff_19 13 21 rfl) (fdB_of (k := 304) tX12_fewestOff_19 14 4 rfl)
theorem dX12_fewestOf_319 : decode cX12_fewestOf 319 = .ok (.iconst 1, 1) := dk_4 (fdB_of (k := 304) tX12_fewestOff_19 15 4 rfl)
theorem dX12_fewestOf_320 : decode cX12_fewestOf 320 = .ok (.if_icmp .le 35, 3) := dk_164 (fdB_of (k := 320) tX12_fewestOff_20 0 164 rfl) (fdB_of (k := 320) tX12_fewestOff_20 1 0 rfl) (fdB_of (k := 320) tX12_fewestOff_20 2 35 rfl) (by decide +kernel)
theorem dX12_fewestOf_323 : decode cX12_fewestOf 323 = .ok (.aload_n 0, 1) := dk_42 (fdB_of (k := 320) tX12_fewestOff_20 3 42 rfl)
theorem dX12_fewestOf_324 : decode cX12_fewestOf 324 = .ok (.getfield 72, 3) := dk_180 (fdB_of (k := 320) tX12_fewestOff_20 4 180 rfl) (fdB_of (k := 320) tX12_fewestOff_20 5 0 rfl) (fdB_of (k := 320) tX12_fewestOff_20 6 72 rfl)
theorem dX12_fewestOf_327 : decode cX12_fewestOf 327 = .ok (.iload 6, 2) := dk_21 (fdB_of (k := 320) tX12_fewestOff_20 7 21 rfl) (fdB_of (k := 320) tX12_fewestOff_20 8 6 rfl)
theorem dX12_fewestOf_329 : decode cX12_fewestOf 329 = .ok (.iaload, 1) := dk_46 (fdB_of (k := 320) tX12_fewestOff_20 9 46 rfl)
theorem dX12_fewestOf_330 : decode cX12_fewestOf 330 = .ok (.iload 5, 2) := dk_21 (fdB_of (k := 320) tX12_fewestOff_20 10 21 rfl) (fdB_of (k := 320) tX12_fewestOff_20 11 5 rfl)
theorem dX12_fewestOf_332 : decode cX12_fewestOf 332 = .ok (.if_icmp .ge 13, 3) := dk_162 (fdB_of (k := 320) tX12_fewestOff_20 12 162 rfl) (fdB_of (k := 320) tX12_fewestOff_20 13 0 rfl) (fdB_of (k := 320) tX12_fewestOff_20 14 13 rfl) (by decide +kernel)
theorem dX12_fewestOf_335 : decode cX12_fewestOf 335 = .ok (.aload_n 0, 1) := dk_42 (fdB_of (k := 320) tX12_fewestOff_20 15 42 rfl)
theorem dX12_fewestOf_336 : decode cX12_fewestOf 336 = .ok (.getfield 72, 3) := dk_180 (fdB_of (k := 336) tX12_fewestOff_21 0 180 rfl) (fdB_of (k := 336) tX12_fewestOff_21 1 0 rfl) (fdB_of (k := 336) tX12_fewestOff_21 2 72 rfl)
theorem dX12_fewestOf_339 : decode cX12_fewestOf 339 = .ok (.iload 6, 2) := dk_21 (fdB_of (k := 336) tX12_fewestOff_21 3 21 rfl) (fdB_of (k := 336) tX12_fewestOff_21 4 6 rfl)
theorem dX12_fewestOf_341 : decode cX12_fewestOf 341 = .ok (.iaload, 1) := dk_46 (fdB_of (k := 336) tX12_fewestOff_21 5 46 rfl)
theorem dX12_fewestOf_342 : decode cX12_fewestOf 342 = .ok (.goto 5, 3) := dk_167 (fdB_of (k := 336) tX12_fewestOff_21 6 167 rfl) (fdB_of (k := 336) tX12_fewestOff_21 7 0 rfl) (fdB_of (k := 336) tX12_fewestOff_21 8 5 rfl) (by decide +kernel)
theorem dX12_fewestOf_345 : decode cX12_fewestOf 345 = .ok (.iload 5, 2) := dk_21 (fdB_of (k := 336) tX12_fewestOff_21 9 21 rfl) (fdB_of (k := 336) tX12_fewestOff_21 10 5 rfl)
theorem dX12_fewestOf_347 : decode cX12_fewestOf 347 = .ok (.istore 5, 2) := dk_54 (fdB_of (k := 336) tX12_fewestOff_21 11 54 rfl) (fdB_of (k := 336) tX12_fewestOff_21 12 5 rfl)
theorem dX12_fewestOf_349 : decode cX12_fewestOf 349 = .ok (.iinc 6 1, 3) := dk_132 (fdB_of (k := 336) tX12_fewestOff_21 13 132 rfl) (fdB_of (k := 336) tX12_fewestOff_21 14 6 rfl) (fdB_of (k := 336) tX12_fewestOff_21 15 1 rfl) (by decide +kernel)
theorem dX12_fewestOf_352 : decode cX12_fewestOf 352 = .ok (.goto (-44), 3) := dk_167 (fdB_of (k := 352) tX12_fewestOff_22 0 167 rfl) (fdB_of (k := 352) tX12_fewestOff_22 1 255 rfl) (fdB_of (k := 352) tX12_fewestOff_22 2 212 rfl) (by decide +kernel)
theorem dX12_fewestOf_355 : decode cX12_fewestOf 355 = .ok (.iload 5, 2) := dk_21 (fdB_of (k := 352) tX12_fewestOff_22 3 21 rfl) (fdB_of (k := 352) tX12_fewestOff_22 4 5 rfl)
theorem dX12_fewestOf_357 : decode cX12_fewestOf 357 = .ok (.ireturn, 1) := dk_172 (fdB_of (k := 352) tX12_fewestOff_22 5 172 rfl)

theorem q5_15 : Cond.fieldLink RX12 59 "RhymeLawModel" "may" "[I" ∈ TT := tq5 15 rfl rfl
theorem q5_19 : Cond.fieldLink RX12 72 "RhymeLawModel" "least" "[I" ∈ TT := tq5 19 rfl rfl
theorem q5_20 : Cond.fieldLink RX12 75 "RhymeLawModel" "leastThen" "[I" ∈ TT := tq5 20 rfl rfl
theorem ms_leastThen {p : Program} {l : Launch} {e : Env} {R : Room} {s : State} {m : MethodId} {args : Array Value} {below : List Frame} {meth : Method} {c : Code} {D : gG} {A : Nat → Prop} {nL : Nat} {Q : State → Prop} {cells slots : Nat} {cc : ByteArray} {L : List (Nat × Value)} {pc : Nat} {stk : List Value} {β : Type} {r : β} {o : Nat → Nat} {cB cI cJ cZ : ClassId} {z : SM} (cx : gX p s m args meth c cc nL RX12 D (tyL cB cI cJ cZ) A) {i : Int32} {x : Int32} {kf : SM → Option β} (hf : ((aset 16 (mA z 37) i x).bind fun f => nm (mAs z 37 f) kf) = some r) (hd : decode cc pc = .ok (.iastore, 1)) (kk : ∀ y : SM, kf y = some r → gW p l e R s m args below meth c D A nL Q cells slots (wX12 o cB cI cJ cZ y) L (pc + 1) stk) : gW p l e R s m args below meth c D A nL Q cells slots (wX12 o cB cI cJ cZ z) L pc (.int x :: .int i :: .ref (o 22) :: stk) :=
  g_iast cx 22 1 (ws' := fun f => wX12 o cB cI cJ cZ (mAs z 37 f)) hf rfl rfl (fun _ => rfl) hd (fun _ hf => kk _ hf)
theorem fg_RX12_75 {p : Program} {l : Launch} {e : Env} {R : Room} {s : State} {m : MethodId} {args : Array Value} {below : List Frame} {meth : Method} {c : Code} {D : gG} {tys : List (ClassId × FieldType)} {A : Nat → Prop} {nL : Nat} {Q : State → Prop} {cells slots : Nat} {cc : ByteArray} {ws : va_W} {L : List (Nat × Value)} {pc : Nat} {stk : List Value} (cx : gX p s m args meth c cc nL RX12 D tys A) {a : Nat} {fs : List Value} {v : Value} (q0 : Nat) (he : ws[q0]? = some (a, .inr (10, fs))) (hv : fs[37]? = some v) (hd : decode cc pc = .ok (.getfield 75, 3)) (kk : gW p l e R s m args below meth c D A nL Q cells slots ws L (pc + 3) (v :: stk)) : gW p l e R s m args below meth c D A nL Q cells slots ws L pc (.ref a :: stk) :=
  g_get cx (C := RX12) (T := TX12) (N := 38) inT12 rfl 37 (Nat.le_of_ble_eq_true rfl) q5_20 rfl q0 he hv hd kk
theorem mg_leastThen {p : Program} {l : Launch} {e : Env} {R : Room} {s : State} {m : MethodId} {args : Array Value} {below : List Frame} {meth : Method} {c : Code} {D : gG} {A : Nat → Prop} {nL : Nat} {Q : State → Prop} {cells slots : Nat} {cc : ByteArray} {L : List (Nat × Value)} {pc : Nat} {stk : List Value} {o : Nat → Nat} {cB cI cJ cZ : ClassId} {z : SM} (cx : gX p s m args meth c cc nL RX12 D (tyL cB cI cJ cZ) A) (hd : decode cc pc = .ok (.getfield 75, 3)) (kk : gW p l e R s m args below meth c D A nL Q cells slots (wX12 o cB cI cJ cZ z) L (pc + 3) (.ref (o 22) :: stk)) : gW p l e R s m args below meth c D A nL Q cells slots (wX12 o cB cI cJ cZ z) L pc (.ref (o 0) :: stk) :=
  fg_RX12_75 cx 0 rfl rfl hd kk
theorem ml_leastThen {p : Program} {l : Launch} {e : Env} {R : Room} {s : State} {m : MethodId} {args : Array Value} {below : List Frame} {meth : Method} {c : Code} {D : gG} {A : Nat → Prop} {nL : Nat} {Q : State → Prop} {cells slots : Nat} {cc : ByteArray} {L : List (Nat × Value)} {pc : Nat} {stk : List Value} {β : Type} {r : β} {o : Nat → Nat} {cB cI cJ cZ : ClassId} {z : SM} (cx : gX p s m args meth c cc nL RX12 D (tyL cB cI cJ cZ) A) {i : Int32} {kf : Int32 → Option β} (hf : (aget 16 (mA z 37) i).bind kf = some r) (hd : decode cc pc = .ok (.iaload, 1)) (kk : ∀ v : Int32, kf v = some r → gW p l e R s m args below meth c D A nL Q cells slots (wX12 o cB cI cJ cZ z) L (pc + 1) (.int v :: stk)) : gW p l e R s m args below meth c D A nL Q cells slots (wX12 o cB cI cJ cZ z) L pc (.int i :: .ref (o 22) :: stk) :=
  g_iald cx 22 1 hf rfl rfl hd kk
theorem fg_RX12_72 {p : Program} {l : Launch} {e : Env} {R : Room} {s : State} {m : MethodId} {args : Array Value} {below : List Frame} {meth : Method} {c : Code} {D : gG} {tys : List (ClassId × FieldType)} {A : Nat → Prop} {nL : Nat} {Q : State → Prop} {cells slots : Nat} {cc : ByteArray} {ws : va_W} {L : List (Nat × Value)} {pc : Nat} {stk : List Value} (cx : gX p s m args meth c cc nL RX12 D tys A) {a : Nat} {fs : List Value} {v : Value} (q0 : Nat) (he : ws[q0]? = some (a, .inr (10, fs))) (hv : fs[36]? = some v) (hd : decode cc pc = .ok (.getfield 72, 3)) (kk : gW p l e R s m args below meth c D A nL Q cells slots ws L (pc + 3) (v :: stk)) : gW p l e R s m args below meth c D A nL Q cells slots ws L pc (.ref a :: stk) :=
  g_get cx (C := RX12) (T := TX12) (N := 38) inT12 rfl 36 (Nat.le_of_ble_eq_true rfl) q5_19 rfl q0 he hv hd kk
theorem mg_least {p : Program} {l : Launch} {e : Env} {R : Room} {s : State} {m : MethodId} {args : Array Value} {below : List Frame} {meth : Method} {c : Code} {D : gG} {A : Nat → Prop} {nL : Nat} {Q : State → Prop} {cells slots : Nat} {cc : ByteArray} {L : List (Nat × Value)} {pc : Nat} {stk : List Value} {o : Nat → Nat} {cB cI cJ cZ : ClassId} {z : SM} (cx : gX p s m args meth c cc nL RX12 D (tyL cB cI cJ cZ) A) (hd : decode cc pc = .ok (.getfield 72, 3)) (kk : gW p l e R s m args below meth c D A nL Q cells slots (wX12 o cB cI cJ cZ z) L (pc + 3) (.ref (o 21) :: stk)) : gW p l e R s m args below meth c D A nL Q cells slots (wX12 o cB cI cJ cZ z) L pc (.ref (o 0) :: stk) :=
  fg_RX12_72 cx 0 rfl rfl hd kk
theorem ml_least {p : Program} {l : Launch} {e : Env} {R : Room} {s : State} {m : MethodId} {args : Array Value} {below : List Frame} {meth : Method} {c : Code} {D : gG} {A : Nat → Prop} {nL : Nat} {Q : State → Prop} {cells slots : Nat} {cc : ByteArray} {L : List (Nat × Value)} {pc : Nat} {stk : List Value} {β : Type} {r : β} {o : Nat → Nat} {cB cI cJ cZ : ClassId} {z : SM} (cx : gX p s m args meth c cc nL RX12 D (tyL cB cI cJ cZ) A) {i : Int32} {kf : Int32 → Option β} (hf : (aget 16 (mA z 36) i).bind kf = some r) (hd : decode cc pc = .ok (.iaload, 1)) (kk : ∀ v : Int32, kf v = some r → gW p l e R s m args below meth c D A nL Q cells slots (wX12 o cB cI cJ cZ z) L (pc + 1) (.int v :: stk)) : gW p l e R s m args below meth c D A nL Q cells slots (wX12 o cB cI cJ cZ z) L pc (.int i :: .ref (o 21) :: stk) :=
  g_iald cx 21 1 hf rfl rfl hd kk
theorem ms_least {p : Program} {l : Launch} {e : Env} {R : Room} {s : State} {m : MethodId} {args : Array Value} {below : List Frame} {meth : Method} {c : Code} {D : gG} {A : Nat → Prop} {nL : Nat} {Q : State → Prop} {cells slots : Nat} {cc : ByteArray} {L : List (Nat × Value)} {pc : Nat} {stk : List Value} {β : Type} {r : β} {o : Nat → Nat} {cB cI cJ cZ : ClassId} {z : SM} (cx : gX p s m args meth c cc nL RX12 D (tyL cB cI cJ cZ) A) {i : Int32} {x : Int32} {kf : SM → Option β} (hf : ((aset 16 (mA z 36) i x).bind fun f => nm (mAs z 36 f) kf) = some r) (hd : decode cc pc = .ok (.iastore, 1)) (kk : ∀ y : SM, kf y = some r → gW p l e R s m args below meth c D A nL Q cells slots (wX12 o cB cI cJ cZ y) L (pc + 1) stk) : gW p l e R s m args below meth c D A nL Q cells slots (wX12 o cB cI cJ cZ z) L pc (.int x :: .int i :: .ref (o 21) :: stk) :=
  g_iast cx 21 1 (ws' := fun f => wX12 o cB cI cJ cZ (mAs z 36 f)) hf rfl rfl (fun _ => rfl) hd (fun _ hf => kk _ hf)
theorem fg_RX12_59 {p : Program} {l : Launch} {e : Env} {R : Room} {s : State} {m : MethodId} {args : Array Value} {below : List Frame} {meth : Method} {c : Code} {D : gG} {tys : List (ClassId × FieldType)} {A : Nat → Prop} {nL : Nat} {Q : State → Prop} {cells slots : Nat} {cc : ByteArray} {ws : va_W} {L : List (Nat × Value)} {pc : Nat} {stk : List Value} (cx : gX p s m args meth c cc nL RX12 D tys A) {a : Nat} {fs : List Value} {v : Value} (q0 : Nat) (he : ws[q0]? = some (a, .inr (10, fs))) (hv : fs[32]? = some v) (hd : decode cc pc = .ok (.getfield 59, 3)) (kk : gW p l e R s m args below meth c D A nL Q cells slots ws L (pc + 3) (v :: stk)) : gW p l e R s m args below meth c D A nL Q cells slots ws L pc (.ref a :: stk) :=
  g_get cx (C := RX12) (T := TX12) (N := 38) inT12 rfl 32 (Nat.le_of_ble_eq_true rfl) q5_15 rfl q0 he hv hd kk
theorem mg_may {p : Program} {l : Launch} {e : Env} {R : Room} {s : State} {m : MethodId} {args : Array Value} {below : List Frame} {meth : Method} {c : Code} {D : gG} {A : Nat → Prop} {nL : Nat} {Q : State → Prop} {cells slots : Nat} {cc : ByteArray} {L : List (Nat × Value)} {pc : Nat} {stk : List Value} {o : Nat → Nat} {cB cI cJ cZ : ClassId} {z : SM} (cx : gX p s m args meth c cc nL RX12 D (tyL cB cI cJ cZ) A) (hd : decode cc pc = .ok (.getfield 59, 3)) (kk : gW p l e R s m args below meth c D A nL Q cells slots (wX12 o cB cI cJ cZ z) L (pc + 3) (.ref (o 17) :: stk)) : gW p l e R s m args below meth c D A nL Q cells slots (wX12 o cB cI cJ cZ z) L pc (.ref (o 0) :: stk) :=
  fg_RX12_59 cx 0 rfl rfl hd kk
theorem ml_may {p : Program} {l : Launch} {e : Env} {R : Room} {s : State} {m : MethodId} {args : Array Value} {below : List Frame} {meth : Method} {c : Code} {D : gG} {A : Nat → Prop} {nL : Nat} {Q : State → Prop} {cells slots : Nat} {cc : ByteArray} {L : List (Nat × Value)} {pc : Nat} {stk : List Value} {β : Type} {r : β} {o : Nat → Nat} {cB cI cJ cZ : ClassId} {z : SM} (cx : gX p s m args meth c cc nL RX12 D (tyL cB cI cJ cZ) A) {i : Int32} {kf : Int32 → Option β} (hf : (aget 9 (mA z 32) i).bind kf = some r) (hd : decode cc pc = .ok (.iaload, 1)) (kk : ∀ v : Int32, kf v = some r → gW p l e R s m args below meth c D A nL Q cells slots (wX12 o cB cI cJ cZ z) L (pc + 1) (.int v :: stk)) : gW p l e R s m args below meth c D A nL Q cells slots (wX12 o cB cI cJ cZ z) L pc (.int i :: .ref (o 17) :: stk) :=
  g_iald cx 17 1 hf rfl rfl hd kk
def F_X12_fewestOf_b285 (x1 : Int32) (x2 : Int32) (x3 : Int32) (K32 : Int32 → Int32 → SM → Option (Int32 × SM)) (v4 : Int32) (v5 : Int32) (zs_o : SM) : Option (Int32 × SM) := nm (v5 + 1) fun v5_1 => K32 v4 v5_1 zs_o
def F_X12_fewestOf_b244 (x1 : Int32) (x2 : Int32) (x3 : Int32) (K32 : Int32 → Int32 → SM → Option (Int32 × SM)) (K55 : Int32 → Int32 → Int32 → SM → Option (Int32 × SM)) (v4 : Int32) (v5 : Int32) (v6 : Int32) (zs_o : SM) : Option (Int32 × SM) := nm (v6 + 1) fun v6_2 => K55 v4 v5 v6_2 zs_o
def F_X12_fewestOf_b237 (x1 : Int32) (x2 : Int32) (x3 : Int32) (K32 : Int32 → Int32 → SM → Option (Int32 × SM)) (K55 : Int32 → Int32 → Int32 → SM → Option (Int32 × SM)) (K123 : Int32 → Int32 → Int32 → Int32 → Int32 → SM → Option (Int32 × SM)) (v4 : Int32) (v5 : Int32) (v6 : Int32) (v7 : Int32) (v8 : Int32) (zs_o : SM) (k1 : Int32) (k2 : Int32) : Option (Int32 × SM) := (aset 16 (mA zs_o 37) k1 k2).bind fun f_3 => nm (mAs zs_o 37 f_3) fun s_o_4 => nm (v8 + 1) fun v8_5 => K123 v4 v5 v6 v7 v8_5 s_o_4
def F_X12_fewestOf_b230 (x1 : Int32) (x2 : Int32) (x3 : Int32) (K32 : Int32 → Int32 → SM → Option (Int32 × SM)) (K55 : Int32 → Int32 → Int32 → SM → Option (Int32 × SM)) (K123 : Int32 → Int32 → Int32 → Int32 → Int32 → SM → Option (Int32 × SM)) (v4 : Int32) (v5 : Int32) (v6 : Int32) (v7 : Int32) (v8 : Int32) (zs_o : SM) (k1 : Int32) : Option (Int32 × SM) := (aget 16 (mA zs_o 37) v6).bind fun e_6 => F_X12_fewestOf_b237 x1 x2 x3 K32 K55 K123 v4 v5 v6 v7 v8 zs_o k1 e_6
def F_X12_fewestOf_b199 (x1 : Int32) (x2 : Int32) (x3 : Int32) (K32 : Int32 → Int32 → SM → Option (Int32 × SM)) (K55 : Int32 → Int32 → Int32 → SM → Option (Int32 × SM)) (K123 : Int32 → Int32 → Int32 → Int32 → Int32 → SM → Option (Int32 × SM)) (v4 : Int32) (v5 : Int32) (v6 : Int32) (v7 : Int32) (v8 : Int32) (v9 : Int32) (zs_o : SM) (k0 : Int32) (k1 : Int32) : Option (Int32 × SM) := nm (k0 + k1) fun v10_7 => (if v9 = 0 then F_X12_fewestOf_b230 x1 x2 x3 K32 K55 K123 v4 v5 v6 v7 v8 zs_o v6 else (aget 16 (mA zs_o 37) v6).bind fun e_8 => (if e_8 ≤ v10_7 then F_X12_fewestOf_b230 x1 x2 x3 K32 K55 K123 v4 v5 v6 v7 v8 zs_o v6 else F_X12_fewestOf_b237 x1 x2 x3 K32 K55 K123 v4 v5 v6 v7 v8 zs_o v6 v10_7))
def F_X12_fewestOf_b169 (x1 : Int32) (x2 : Int32) (x3 : Int32) (K32 : Int32 → Int32 → SM → Option (Int32 × SM)) (K55 : Int32 → Int32 → Int32 → SM → Option (Int32 × SM)) (K123 : Int32 → Int32 → Int32 → Int32 → Int32 → SM → Option (Int32 × SM)) (v4 : Int32) (v5 : Int32) (v6 : Int32) (v7 : Int32) (v8 : Int32) (zs_o : SM) (k0 : Int32) : Option (Int32 × SM) := nm k0 fun v9_9 => (aget 16 (mA zs_o 36) v8).bind fun e_10 => (aget 25 (mA zs_o 21) (1 + (3 * v5))).bind fun e_11 => (if v6 = e_11 then F_X12_fewestOf_b199 x1 x2 x3 K32 K55 K123 v4 v5 v6 v7 v8 v9_9 zs_o e_10 0 else F_X12_fewestOf_b199 x1 x2 x3 K32 K55 K123 v4 v5 v6 v7 v8 v9_9 zs_o e_10 1)
def F_X12_fewestOf_b123 (x1 : Int32) (x2 : Int32) (x3 : Int32) (K32 : Int32 → Int32 → SM → Option (Int32 × SM)) (K55 : Int32 → Int32 → Int32 → SM → Option (Int32 × SM)) : Nat → Int32 → Int32 → Int32 → Int32 → Int32 → SM → Option (Int32 × SM)
  | 0, _, _, _, _, _, _ => none
  | n + 1, v4, v5, v6, v7, v8, zs_o => (if (mI zs_o 13) ≤ v8 then F_X12_fewestOf_b244 x1 x2 x3 K32 K55 v4 v5 v6 zs_o else (if v7 = 0 then F_X12_fewestOf_b244 x1 x2 x3 K32 K55 v4 v5 v6 zs_o else (if v4 = 0 then (if v8 = v6 then F_X12_fewestOf_b169 x1 x2 x3 K32 K55 (F_X12_fewestOf_b123 x1 x2 x3 K32 K55 n) v4 v5 v6 v7 v8 zs_o 1 else F_X12_fewestOf_b169 x1 x2 x3 K32 K55 (F_X12_fewestOf_b123 x1 x2 x3 K32 K55 n) v4 v5 v6 v7 v8 zs_o 0) else (if v8 = v6 then F_X12_fewestOf_b169 x1 x2 x3 K32 K55 (F_X12_fewestOf_b123 x1 x2 x3 K32 K55 n) v4 v5 v6 v7 v8 zs_o 0 else F_X12_fewestOf_b169 x1 x2 x3 K32 K55 (F_X12_fewestOf_b123 x1 x2 x3 K32 K55 n) v4 v5 v6 v7 v8 zs_o 1))))
def F_X12_fewestOf_b118 (x1 : Int32) (x2 : Int32) (x3 : Int32) (K32 : Int32 → Int32 → SM → Option (Int32 × SM)) (K55 : Int32 → Int32 → Int32 → SM → Option (Int32 × SM)) (v4 : Int32) (v5 : Int32) (v6 : Int32) (zs_o : SM) (k0 : Int32) : Option (Int32 × SM) := nm k0 fun v7_12 => nm 0 fun v8_13 => F_X12_fewestOf_b123 x1 x2 x3 K32 K55 fu v4 v5 v6 v7_12 v8_13 zs_o
def F_X12_fewestOf_b117 (x1 : Int32) (x2 : Int32) (x3 : Int32) (K32 : Int32 → Int32 → SM → Option (Int32 × SM)) (K55 : Int32 → Int32 → Int32 → SM → Option (Int32 × SM)) (v4 : Int32) (v5 : Int32) (v6 : Int32) (zs_o : SM) : Option (Int32 × SM) := F_X12_fewestOf_b118 x1 x2 x3 K32 K55 v4 v5 v6 zs_o 0
def F_X12_fewestOf_b253 (x1 : Int32) (x2 : Int32) (x3 : Int32) (K32 : Int32 → Int32 → SM → Option (Int32 × SM)) : Nat → Int32 → Int32 → Int32 → SM → Option (Int32 × SM)
  | 0, _, _, _, _ => none
  | n + 1, v4, v5, v6, zs_o => (if (mI zs_o 13) ≤ v6 then nm (v4 + 1) fun v4_14 => F_X12_fewestOf_b285 x1 x2 x3 K32 v4_14 v5 zs_o else (aget 16 (mA zs_o 37) v6).bind fun e_15 => (aset 16 (mA zs_o 36) v6 e_15).bind fun f_16 => nm (mAs zs_o 36 f_16) fun s_o_17 => nm (v6 + 1) fun v6_18 => (F_X12_fewestOf_b253 x1 x2 x3 K32 n) v4 v5 v6_18 s_o_17)
def F_X12_fewestOf_b55 (x1 : Int32) (x2 : Int32) (x3 : Int32) (K32 : Int32 → Int32 → SM → Option (Int32 × SM)) : Nat → Int32 → Int32 → Int32 → SM → Option (Int32 × SM)
  | 0, _, _, _, _ => none
  | n + 1, v4, v5, v6, zs_o => (if (mI zs_o 13) ≤ v6 then nm 0 fun v6_19 => F_X12_fewestOf_b253 x1 x2 x3 K32 fu v4 v5 v6_19 zs_o else (aset 16 (mA zs_o 37) v6 1000).bind fun f_20 => nm (mAs zs_o 37 f_20) fun s_o_21 => (aget 9 (mA s_o_21 32) v5).bind fun e_22 => (if ((e_22 >>> (v6 &&& 31)) &&& 1) = 1 then (aget 16 (mA s_o_21 31) v6).bind fun e_23 => (if e_23 = x3 then (F_X12_isMetre s_o_21 x1 v5 v6).bind fun q_24 => (if q_24 = 0 then F_X12_fewestOf_b117 x1 x2 x3 K32 (F_X12_fewestOf_b55 x1 x2 x3 K32 n) v4 v5 v6 s_o_21 else F_X12_fewestOf_b118 x1 x2 x3 K32 (F_X12_fewestOf_b55 x1 x2 x3 K32 n) v4 v5 v6 s_o_21 1) else F_X12_fewestOf_b117 x1 x2 x3 K32 (F_X12_fewestOf_b55 x1 x2 x3 K32 n) v4 v5 v6 s_o_21) else F_X12_fewestOf_b117 x1 x2 x3 K32 (F_X12_fewestOf_b55 x1 x2 x3 K32 n) v4 v5 v6 s_o_21))
def F_X12_fewestOf_b347 (x1 : Int32) (x2 : Int32) (x3 : Int32) (K308 : Int32 → Int32 → Int32 → SM → Option (Int32 × SM)) (v4 : Int32) (v6 : Int32) (zs_o : SM) (k0 : Int32) : Option (Int32 × SM) := nm k0 fun v5_25 => nm (v6 + 1) fun v6_26 => K308 v4 v5_25 v6_26 zs_o
def F_X12_fewestOf_b308 (x1 : Int32) (x2 : Int32) (x3 : Int32) : Nat → Int32 → Int32 → Int32 → SM → Option (Int32 × SM)
  | 0, _, _, _, _ => none
  | n + 1, v4, v5, v6, zs_o => (if (mI zs_o 13) ≤ v6 then some (v5, zs_o) else (if v4 ≤ 1 then some (v5, zs_o) else (aget 16 (mA zs_o 36) v6).bind fun e_27 => (if v5 ≤ e_27 then F_X12_fewestOf_b347 x1 x2 x3 (F_X12_fewestOf_b308 x1 x2 x3 n) v4 v6 zs_o v5 else (aget 16 (mA zs_o 36) v6).bind fun e_28 => F_X12_fewestOf_b347 x1 x2 x3 (F_X12_fewestOf_b308 x1 x2 x3 n) v4 v6 zs_o e_28)))
def F_X12_fewestOf_b303 (x1 : Int32) (x2 : Int32) (x3 : Int32) (v4 : Int32) (zs_o : SM) (k0 : Int32) : Option (Int32 × SM) := nm k0 fun v5_29 => nm 0 fun v6_30 => F_X12_fewestOf_b308 x1 x2 x3 fu v4 v5_29 v6_30 zs_o
def F_X12_fewestOf_b32 (x1 : Int32) (x2 : Int32) (x3 : Int32) : Nat → Int32 → Int32 → SM → Option (Int32 × SM)
  | 0, _, _, _ => none
  | n + 1, v4, v5, zs_o => (if (mI zs_o 25) ≤ v5 then (if v4 = 0 then F_X12_fewestOf_b303 x1 x2 x3 v4 zs_o 0 else F_X12_fewestOf_b303 x1 x2 x3 v4 zs_o 1000) else (F_X12_letterOf zs_o x1 v5).bind fun q_31 => (if q_31 = x2 then nm 0 fun v6_32 => F_X12_fewestOf_b55 x1 x2 x3 (F_X12_fewestOf_b32 x1 x2 x3 n) fu v4 v5 v6_32 zs_o else F_X12_fewestOf_b285 x1 x2 x3 (F_X12_fewestOf_b32 x1 x2 x3 n) v4 v5 zs_o))
def F_X12_fewestOf_b6 (x1 : Int32) (x2 : Int32) (x3 : Int32) : Nat → Int32 → Int32 → SM → Option (Int32 × SM)
  | 0, _, _, _ => none
  | n + 1, v4, v5, zs_o => (if (mI zs_o 13) ≤ v5 then nm 0 fun v5_33 => F_X12_fewestOf_b32 x1 x2 x3 fu v4 v5_33 zs_o else (aset 16 (mA zs_o 36) v5 0).bind fun f_34 => nm (mAs zs_o 36 f_34) fun s_o_35 => nm (v5 + 1) fun v5_36 => (F_X12_fewestOf_b6 x1 x2 x3 n) v4 v5_36 s_o_35)
def F_X12_fewestOf (s_o : SM) (x1 : Int32) (x2 : Int32) (x3 : Int32) : Option (Int32 × SM) := nm 0 fun v4_37 => nm 0 fun v5_38 => F_X12_fewestOf_b6 x1 x2 x3 fu v4_37 v5_38 s_o

abbrev rm_X12_fewestOf : Room := { frames := 2, cells := 0, slots := 0, locals := 46 }
set_option maxHeartbeats 4000000 in
set_option maxRecDepth 100000 in
theorem c_X12_fewestOf (l : Launch) (D : gG) (cB cI cJ cZ : ClassId) (o : Nat → Nat) (s_o : SM) (x1 : Int32) (x2 : Int32) (x3 : Int32) (r : Int32 × SM) (hf : F_X12_fewestOf s_o x1 x2 x3 = some r) : gM l D (tyL cB cI cJ cZ) yX12_fewestOf cX12_fewestOf 11 (some .int) rm_X12_fewestOf [.ref (o 0), .int x1, .int x2, .int x3] (wX12 o cB cI cJ cZ s_o) (some (.int r.1)) (wX12 o cB cI cJ cZ r.2) := by
  refine met_of (by decide) (Nat.le_of_ble_eq_true rfl) ?_
  intro p e s m args below meth c A cx hr hA
  show gW p l e rm_X12_fewestOf s m args below meth c D A 11 _ 0 0 _ [(0, .ref (o 0)), (1, .int x1), (2, .int x2), (3, .int x3)] 0 []
  have h285 : ∀ (K32 : Int32 → Int32 → SM → Option (Int32 × SM)), (∀ (v4 : Int32) (v5 : Int32) (zs_o : SM), K32 v4 v5 zs_o = some r → gW p l e rm_X12_fewestOf s m args below meth c D A 11 (MQ below (QM D (tyL cB cI cJ cZ) (some (.int r.1)) (wX12 o cB cI cJ cZ s_o) (wX12 o cB cI cJ cZ r.2) s.heap.size) args s 0 0 A) 0 0 (wX12 o cB cI cJ cZ zs_o) [(0, .ref (o 0)), (1, .int x1), (2, .int x2), (3, .int x3), (4, .int v4), (5, .int v5)] 32 []) → ∀ (v4 : Int32) (v5 : Int32) (zs_o : SM), F_X12_fewestOf_b285 x1 x2 x3 K32 v4 v5 zs_o = some r → gW p l e rm_X12_fewestOf s m args below meth c D A 11 (MQ below (QM D (tyL cB cI cJ cZ) (some (.int r.1)) (wX12 o cB cI cJ cZ s_o) (wX12 o cB cI cJ cZ r.2) s.heap.size) args s 0 0 A) 0 0 (wX12 o cB cI cJ cZ zs_o) [(0, .ref (o 0)), (1, .int x1), (2, .int x2), (3, .int x3), (4, .int v4), (5, .int v5)] 285 [] := by
    intro K32 kh32 v4 v5 zs_o hf
    rw [F_X12_fewestOf_b285] at hf
    refine g_inc cx (L2 := fun v5_1 => [(5, .int v5_1), (0, .ref (o 0)), (1, .int x1), (2, .int x2), (3, .int x3), (4, .int v4)]) 5 hf dX12_fewestOf_285 rfl (k_inc1 _) (Nat.le_of_ble_eq_true rfl) (fun _ => rfl) (fun v5_1 hf => ?_)
    refine g_goto (tgt := 32) cx dX12_fewestOf_288 rfl ?_
    refine g_sub [1, 2, 3, 4, 5, 0] rfl ?_
    exact kh32 _ _ _ hf
  have h244 : ∀ (K32 : Int32 → Int32 → SM → Option (Int32 × SM)), (∀ (v4 : Int32) (v5 : Int32) (zs_o : SM), K32 v4 v5 zs_o = some r → gW p l e rm_X12_fewestOf s m args below meth c D A 11 (MQ below (QM D (tyL cB cI cJ cZ) (some (.int r.1)) (wX12 o cB cI cJ cZ s_o) (wX12 o cB cI cJ cZ r.2) s.heap.size) args s 0 0 A) 0 0 (wX12 o cB cI cJ cZ zs_o) [(0, .ref (o 0)), (1, .int x1), (2, .int x2), (3, .int x3), (4, .int v4), (5, .int v5)] 32 []) → ∀ (K55 : Int32 → Int32 → Int32 → SM → Option (Int32 × SM)), (∀ (v4 : Int32) (v5 : Int32) (v6 : Int32) (zs_o : SM), K55 v4 v5 v6 zs_o = some r → gW p l e rm_X12_fewestOf s m args below meth c D A 11 (MQ below (QM D (tyL cB cI cJ cZ) (some (.int r.1)) (wX12 o cB cI cJ cZ s_o) (wX12 o cB cI cJ cZ r.2) s.heap.size) args s 0 0 A) 0 0 (wX12 o cB cI cJ cZ zs_o) [(0, .ref (o 0)), (1, .int x1), (2, .int x2), (3, .int x3), (4, .int v4), (5, .int v5), (6, .int v6)] 55 []) → ∀ (v4 : Int32) (v5 : Int32) (v6 : Int32) (zs_o : SM), F_X12_fewestOf_b244 x1 x2 x3 K32 K55 v4 v5 v6 zs_o = some r → gW p l e rm_X12_fewestOf s m args below meth c D A 11 (MQ below (QM D (tyL cB cI cJ cZ) (some (.int r.1)) (wX12 o cB cI cJ cZ s_o) (wX12 o cB cI cJ cZ r.2) s.heap.size) args s 0 0 A) 0 0 (wX12 o cB cI cJ cZ zs_o) [(0, .ref (o 0)), (1, .int x1), (2, .int x2), (3, .int x3), (4, .int v4), (5, .int v5), (6, .int v6)] 244 [] := by
    intro K32 kh32 K55 kh55 v4 v5 v6 zs_o hf
    rw [F_X12_fewestOf_b244] at hf
    refine g_inc cx (L2 := fun v6_2 => [(6, .int v6_2), (0, .ref (o 0)), (1, .int x1), (2, .int x2), (3, .int x3), (4, .int v4), (5, .int v5)]) 6 hf dX12_fewestOf_244 rfl (k_inc1 _) (Nat.le_of_ble_eq_true rfl) (fun _ => rfl) (fun v6_2 hf => ?_)
    refine g_goto (tgt := 55) cx dX12_fewestOf_247 rfl ?_
    refine g_sub [1, 2, 3, 4, 5, 6, 0] rfl ?_
    exact kh55 _ _ _ _ hf
  have h237 : ∀ (K32 : Int32 → Int32 → SM → Option (Int32 × SM)), (∀ (v4 : Int32) (v5 : Int32) (zs_o : SM), K32 v4 v5 zs_o = some r → gW p l e rm_X12_fewestOf s m args below meth c D A 11 (MQ below (QM D (tyL cB cI cJ cZ) (some (.int r.1)) (wX12 o cB cI cJ cZ s_o) (wX12 o cB cI cJ cZ r.2) s.heap.size) args s 0 0 A) 0 0 (wX12 o cB cI cJ cZ zs_o) [(0, .ref (o 0)), (1, .int x1), (2, .int x2), (3, .int x3), (4, .int v4), (5, .int v5)] 32 []) → ∀ (K55 : Int32 → Int32 → Int32 → SM → Option (Int32 × SM)), (∀ (v4 : Int32) (v5 : Int32) (v6 : Int32) (zs_o : SM), K55 v4 v5 v6 zs_o = some r → gW p l e rm_X12_fewestOf s m args below meth c D A 11 (MQ below (QM D (tyL cB cI cJ cZ) (some (.int r.1)) (wX12 o cB cI cJ cZ s_o) (wX12 o cB cI cJ cZ r.2) s.heap.size) args s 0 0 A) 0 0 (wX12 o cB cI cJ cZ zs_o) [(0, .ref (o 0)), (1, .int x1), (2, .int x2), (3, .int x3), (4, .int v4), (5, .int v5), (6, .int v6)] 55 []) → ∀ (K123 : Int32 → Int32 → Int32 → Int32 → Int32 → SM → Option (Int32 × SM)), (∀ (v4 : Int32) (v5 : Int32) (v6 : Int32) (v7 : Int32) (v8 : Int32) (zs_o : SM), K123 v4 v5 v6 v7 v8 zs_o = some r → gW p l e rm_X12_fewestOf s m args below meth c D A 11 (MQ below (QM D (tyL cB cI cJ cZ) (some (.int r.1)) (wX12 o cB cI cJ cZ s_o) (wX12 o cB cI cJ cZ r.2) s.heap.size) args s 0 0 A) 0 0 (wX12 o cB cI cJ cZ zs_o) [(0, .ref (o 0)), (1, .int x1), (2, .int x2), (3, .int x3), (4, .int v4), (5, .int v5), (6, .int v6), (7, .int v7), (8, .int v8)] 123 []) → ∀ (v4 : Int32) (v5 : Int32) (v6 : Int32) (v7 : Int32) (v8 : Int32) (zs_o : SM) (k1 : Int32) (k2 : Int32), F_X12_fewestOf_b237 x1 x2 x3 K32 K55 K123 v4 v5 v6 v7 v8 zs_o k1 k2 = some r → gW p l e rm_X12_fewestOf s m args below meth c D A 11 (MQ below (QM D (tyL cB cI cJ cZ) (some (.int r.1)) (wX12 o cB cI cJ cZ s_o) (wX12 o cB cI cJ cZ r.2) s.heap.size) args s 0 0 A) 0 0 (wX12 o cB cI cJ cZ zs_o) [(0, .ref (o 0)), (1, .int x1), (2, .int x2), (3, .int x3), (4, .int v4), (5, .int v5), (6, .int v6), (7, .int v7), (8, .int v8)] 237 [.int k2, .int k1, .ref (o 22)] := by
    intro K32 kh32 K55 kh55 K123 kh123 v4 v5 v6 v7 v8 zs_o k1 k2 hf
    rw [F_X12_fewestOf_b237] at hf
    refine ms_leastThen cx hf dX12_fewestOf_237 (fun s_o_4 hf => ?_)
    refine g_inc cx (L2 := fun v8_5 => [(8, .int v8_5), (0, .ref (o 0)), (1, .int x1), (2, .int x2), (3, .int x3), (4, .int v4), (5, .int v5), (6, .int v6), (7, .int v7)]) 8 hf dX12_fewestOf_238 rfl (k_inc1 _) (Nat.le_of_ble_eq_true rfl) (fun _ => rfl) (fun v8_5 hf => ?_)
    refine g_goto (tgt := 123) cx dX12_fewestOf_241 rfl ?_
    refine g_sub [1, 2, 3, 4, 5, 6, 7, 8, 0] rfl ?_
    exact kh123 _ _ _ _ _ _ hf
  have h230 : ∀ (K32 : Int32 → Int32 → SM → Option (Int32 × SM)), (∀ (v4 : Int32) (v5 : Int32) (zs_o : SM), K32 v4 v5 zs_o = some r → gW p l e rm_X12_fewestOf s m args below meth c D A 11 (MQ below (QM D (tyL cB cI cJ cZ) (some (.int r.1)) (wX12 o cB cI cJ cZ s_o) (wX12 o cB cI cJ cZ r.2) s.heap.size) args s 0 0 A) 0 0 (wX12 o cB cI cJ cZ zs_o) [(0, .ref (o 0)), (1, .int x1), (2, .int x2), (3, .int x3), (4, .int v4), (5, .int v5)] 32 []) → ∀ (K55 : Int32 → Int32 → Int32 → SM → Option (Int32 × SM)), (∀ (v4 : Int32) (v5 : Int32) (v6 : Int32) (zs_o : SM), K55 v4 v5 v6 zs_o = some r → gW p l e rm_X12_fewestOf s m args below meth c D A 11 (MQ below (QM D (tyL cB cI cJ cZ) (some (.int r.1)) (wX12 o cB cI cJ cZ s_o) (wX12 o cB cI cJ cZ r.2) s.heap.size) args s 0 0 A) 0 0 (wX12 o cB cI cJ cZ zs_o) [(0, .ref (o 0)), (1, .int x1), (2, .int x2), (3, .int x3), (4, .int v4), (5, .int v5), (6, .int v6)] 55 []) → ∀ (K123 : Int32 → Int32 → Int32 → Int32 → Int32 → SM → Option (Int32 × SM)), (∀ (v4 : Int32) (v5 : Int32) (v6 : Int32) (v7 : Int32) (v8 : Int32) (zs_o : SM), K123 v4 v5 v6 v7 v8 zs_o = some r → gW p l e rm_X12_fewestOf s m args below meth c D A 11 (MQ below (QM D (tyL cB cI cJ cZ) (some (.int r.1)) (wX12 o cB cI cJ cZ s_o) (wX12 o cB cI cJ cZ r.2) s.heap.size) args s 0 0 A) 0 0 (wX12 o cB cI cJ cZ zs_o) [(0, .ref (o 0)), (1, .int x1), (2, .int x2), (3, .int x3), (4, .int v4), (5, .int v5), (6, .int v6), (7, .int v7), (8, .int v8)] 123 []) → ∀ (v4 : Int32) (v5 : Int32) (v6 : Int32) (v7 : Int32) (v8 : Int32) (zs_o : SM) (k1 : Int32), F_X12_fewestOf_b230 x1 x2 x3 K32 K55 K123 v4 v5 v6 v7 v8 zs_o k1 = some r → gW p l e rm_X12_fewestOf s m args below meth c D A 11 (MQ below (QM D (tyL cB cI cJ cZ) (some (.int r.1)) (wX12 o cB cI cJ cZ s_o) (wX12 o cB cI cJ cZ r.2) s.heap.size) args s 0 0 A) 0 0 (wX12 o cB cI cJ cZ zs_o) [(0, .ref (o 0)), (1, .int x1), (2, .int x2), (3, .int x3), (4, .int v4), (5, .int v5), (6, .int v6), (7, .int v7), (8, .int v8)] 230 [.int k1, .ref (o 22)] := by
    intro K32 kh32 K55 kh55 K123 kh123 v4 v5 v6 v7 v8 zs_o k1 hf
    rw [F_X12_fewestOf_b230] at hf
    refine g_aln cx 0 dX12_fewestOf_230 rfl ?_
    refine mg_leastThen cx dX12_fewestOf_231 ?_
    refine g_il cx 6 dX12_fewestOf_234 rfl ?_
    refine ml_leastThen cx hf dX12_fewestOf_236 (fun e_6 hf => ?_)
    exact h237 _ kh32 _ kh55 _ kh123 _ _ _ _ _ _ _ _ hf
  have h199 : ∀ (K32 : Int32 → Int32 → SM → Option (Int32 × SM)), (∀ (v4 : Int32) (v5 : Int32) (zs_o : SM), K32 v4 v5 zs_o = some r → gW p l e rm_X12_fewestOf s m args below meth c D A 11 (MQ below (QM D (tyL cB cI cJ cZ) (some (.int r.1)) (wX12 o cB cI cJ cZ s_o) (wX12 o cB cI cJ cZ r.2) s.heap.size) args s 0 0 A) 0 0 (wX12 o cB cI cJ cZ zs_o) [(0, .ref (o 0)), (1, .int x1), (2, .int x2), (3, .int x3), (4, .int v4), (5, .int v5)] 32 []) → ∀ (K55 : Int32 → Int32 → Int32 → SM → Option (Int32 × SM)), (∀ (v4 : Int32) (v5 : Int32) (v6 : Int32) (zs_o : SM), K55 v4 v5 v6 zs_o = some r → gW p l e rm_X12_fewestOf s m args below meth c D A 11 (MQ below (QM D (tyL cB cI cJ cZ) (some (.int r.1)) (wX12 o cB cI cJ cZ s_o) (wX12 o cB cI cJ cZ r.2) s.heap.size) args s 0 0 A) 0 0 (wX12 o cB cI cJ cZ zs_o) [(0, .ref (o 0)), (1, .int x1), (2, .int x2), (3, .int x3), (4, .int v4), (5, .int v5), (6, .int v6)] 55 []) → ∀ (K123 : Int32 → Int32 → Int32 → Int32 → Int32 → SM → Option (Int32 × SM)), (∀ (v4 : Int32) (v5 : Int32) (v6 : Int32) (v7 : Int32) (v8 : Int32) (zs_o : SM), K123 v4 v5 v6 v7 v8 zs_o = some r → gW p l e rm_X12_fewestOf s m args below meth c D A 11 (MQ below (QM D (tyL cB cI cJ cZ) (some (.int r.1)) (wX12 o cB cI cJ cZ s_o) (wX12 o cB cI cJ cZ r.2) s.heap.size) args s 0 0 A) 0 0 (wX12 o cB cI cJ cZ zs_o) [(0, .ref (o 0)), (1, .int x1), (2, .int x2), (3, .int x3), (4, .int v4), (5, .int v5), (6, .int v6), (7, .int v7), (8, .int v8)] 123 []) → ∀ (v4 : Int32) (v5 : Int32) (v6 : Int32) (v7 : Int32) (v8 : Int32) (v9 : Int32) (zs_o : SM) (k0 : Int32) (k1 : Int32), F_X12_fewestOf_b199 x1 x2 x3 K32 K55 K123 v4 v5 v6 v7 v8 v9 zs_o k0 k1 = some r → gW p l e rm_X12_fewestOf s m args below meth c D A 11 (MQ below (QM D (tyL cB cI cJ cZ) (some (.int r.1)) (wX12 o cB cI cJ cZ s_o) (wX12 o cB cI cJ cZ r.2) s.heap.size) args s 0 0 A) 0 0 (wX12 o cB cI cJ cZ zs_o) [(0, .ref (o 0)), (1, .int x1), (2, .int x2), (3, .int x3), (4, .int v4), (5, .int v5), (6, .int v6), (7, .int v7), (8, .int v8), (9, .int v9)] 199 [.int k1, .int k0] := by
    intro K32 kh32 K55 kh55 K123 kh123 v4 v5 v6 v7 v8 v9 zs_o k0 k1 hf
    rw [F_X12_fewestOf_b199] at hf
    refine g_iadd cx dX12_fewestOf_199 ?_
    refine g_is cx (L2 := fun v10_7 => [(10, .int v10_7), (0, .ref (o 0)), (1, .int x1), (2, .int x2), (3, .int x3), (4, .int v4), (5, .int v5), (6, .int v6), (7, .int v7), (8, .int v8), (9, .int v9)]) hf dX12_fewestOf_200 (Nat.le_of_ble_eq_true rfl) (fun _ => rfl) (fun v10_7 hf => ?_)
    refine g_aln cx 1 dX12_fewestOf_202 rfl ?_
    refine mg_leastThen cx dX12_fewestOf_203 ?_
    refine g_il cx 7 dX12_fewestOf_206 rfl ?_
    refine g_il cx 10 dX12_fewestOf_208 rfl ?_
    refine g_if_eq (tgt := 230) cx hf dX12_fewestOf_210 rfl (fun hf => ?_) (fun hf => ?_)
    · refine g_sub [1, 2, 3, 4, 5, 6, 7, 8, 9] rfl ?_
      exact h230 _ kh32 _ kh55 _ kh123 _ _ _ _ _ _ _ hf
    · refine g_il cx 0 dX12_fewestOf_213 rfl ?_
      refine g_aln cx 1 dX12_fewestOf_215 rfl ?_
      refine mg_leastThen cx dX12_fewestOf_216 ?_
      refine g_il cx 7 dX12_fewestOf_219 rfl ?_
      refine ml_leastThen cx hf dX12_fewestOf_221 (fun e_8 hf => ?_)
      refine g_ic_ge (tgt := 230) cx hf dX12_fewestOf_222 rfl (fun hf => ?_) (fun hf => ?_)
      · refine g_sub [1, 2, 3, 4, 5, 6, 7, 8, 9] rfl ?_
        exact h230 _ kh32 _ kh55 _ kh123 _ _ _ _ _ _ _ hf
      · refine g_il cx 0 dX12_fewestOf_225 rfl ?_
        refine g_goto (tgt := 237) cx dX12_fewestOf_227 rfl ?_
        refine g_sub [1, 2, 3, 4, 5, 6, 7, 8, 9] rfl ?_
        exact h237 _ kh32 _ kh55 _ kh123 _ _ _ _ _ _ _ _ hf
  have h169 : ∀ (K32 : Int32 → Int32 → SM → Option (Int32 × SM)), (∀ (v4 : Int32) (v5 : Int32) (zs_o : SM), K32 v4 v5 zs_o = some r → gW p l e rm_X12_fewestOf s m args below meth c D A 11 (MQ below (QM D (tyL cB cI cJ cZ) (some (.int r.1)) (wX12 o cB cI cJ cZ s_o) (wX12 o cB cI cJ cZ r.2) s.heap.size) args s 0 0 A) 0 0 (wX12 o cB cI cJ cZ zs_o) [(0, .ref (o 0)), (1, .int x1), (2, .int x2), (3, .int x3), (4, .int v4), (5, .int v5)] 32 []) → ∀ (K55 : Int32 → Int32 → Int32 → SM → Option (Int32 × SM)), (∀ (v4 : Int32) (v5 : Int32) (v6 : Int32) (zs_o : SM), K55 v4 v5 v6 zs_o = some r → gW p l e rm_X12_fewestOf s m args below meth c D A 11 (MQ below (QM D (tyL cB cI cJ cZ) (some (.int r.1)) (wX12 o cB cI cJ cZ s_o) (wX12 o cB cI cJ cZ r.2) s.heap.size) args s 0 0 A) 0 0 (wX12 o cB cI cJ cZ zs_o) [(0, .ref (o 0)), (1, .int x1), (2, .int x2), (3, .int x3), (4, .int v4), (5, .int v5), (6, .int v6)] 55 []) → ∀ (K123 : Int32 → Int32 → Int32 → Int32 → Int32 → SM → Option (Int32 × SM)), (∀ (v4 : Int32) (v5 : Int32) (v6 : Int32) (v7 : Int32) (v8 : Int32) (zs_o : SM), K123 v4 v5 v6 v7 v8 zs_o = some r → gW p l e rm_X12_fewestOf s m args below meth c D A 11 (MQ below (QM D (tyL cB cI cJ cZ) (some (.int r.1)) (wX12 o cB cI cJ cZ s_o) (wX12 o cB cI cJ cZ r.2) s.heap.size) args s 0 0 A) 0 0 (wX12 o cB cI cJ cZ zs_o) [(0, .ref (o 0)), (1, .int x1), (2, .int x2), (3, .int x3), (4, .int v4), (5, .int v5), (6, .int v6), (7, .int v7), (8, .int v8)] 123 []) → ∀ (v4 : Int32) (v5 : Int32) (v6 : Int32) (v7 : Int32) (v8 : Int32) (zs_o : SM) (k0 : Int32), F_X12_fewestOf_b169 x1 x2 x3 K32 K55 K123 v4 v5 v6 v7 v8 zs_o k0 = some r → gW p l e rm_X12_fewestOf s m args below meth c D A 11 (MQ below (QM D (tyL cB cI cJ cZ) (some (.int r.1)) (wX12 o cB cI cJ cZ s_o) (wX12 o cB cI cJ cZ r.2) s.heap.size) args s 0 0 A) 0 0 (wX12 o cB cI cJ cZ zs_o) [(0, .ref (o 0)), (1, .int x1), (2, .int x2), (3, .int x3), (4, .int v4), (5, .int v5), (6, .int v6), (7, .int v7), (8, .int v8)] 169 [.int k0] := by
    intro K32 kh32 K55 kh55 K123 kh123 v4 v5 v6 v7 v8 zs_o k0 hf
    rw [F_X12_fewestOf_b169] at hf
    refine g_is cx (L2 := fun v9_9 => [(9, .int v9_9), (0, .ref (o 0)), (1, .int x1), (2, .int x2), (3, .int x3), (4, .int v4), (5, .int v5), (6, .int v6), (7, .int v7), (8, .int v8)]) hf dX12_fewestOf_169 (Nat.le_of_ble_eq_true rfl) (fun _ => rfl) (fun v9_9 hf => ?_)
    refine g_aln cx 1 dX12_fewestOf_171 rfl ?_
    refine mg_least cx dX12_fewestOf_172 ?_
    refine g_il cx 9 dX12_fewestOf_175 rfl ?_
    refine ml_least cx hf dX12_fewestOf_177 (fun e_10 hf => ?_)
    refine g_il cx 7 dX12_fewestOf_178 rfl ?_
    refine g_aln cx 1 dX12_fewestOf_180 rfl ?_
    refine mg_s cx dX12_fewestOf_181 ?_
    refine g_ic cx dX12_fewestOf_184 k_ic1 ?_
    refine g_ic cx dX12_fewestOf_185 k_ic3 ?_
    refine g_il cx 6 dX12_fewestOf_186 rfl ?_
    refine g_imul cx dX12_fewestOf_188 ?_
    refine g_iadd cx dX12_fewestOf_189 ?_
    refine ml_s cx hf dX12_fewestOf_190 (fun e_11 hf => ?_)
    refine g_ic_ne (tgt := 198) cx hf dX12_fewestOf_191 rfl (fun hf => ?_) (fun hf => ?_)
    · refine g_ic cx dX12_fewestOf_198 k_ic1 ?_
      refine g_sub [1, 2, 3, 4, 5, 6, 7, 8, 9, 0] rfl ?_
      exact h199 _ kh32 _ kh55 _ kh123 _ _ _ _ _ _ _ _ _ hf
    · refine g_ic cx dX12_fewestOf_194 k_ic0 ?_
      refine g_goto (tgt := 199) cx dX12_fewestOf_195 rfl ?_
      refine g_sub [1, 2, 3, 4, 5, 6, 7, 8, 9, 0] rfl ?_
      exact h199 _ kh32 _ kh55 _ kh123 _ _ _ _ _ _ _ _ _ hf
  have h123 : ∀ (K32 : Int32 → Int32 → SM → Option (Int32 × SM)), (∀ (v4 : Int32) (v5 : Int32) (zs_o : SM), K32 v4 v5 zs_o = some r → gW p l e rm_X12_fewestOf s m args below meth c D A 11 (MQ below (QM D (tyL cB cI cJ cZ) (some (.int r.1)) (wX12 o cB cI cJ cZ s_o) (wX12 o cB cI cJ cZ r.2) s.heap.size) args s 0 0 A) 0 0 (wX12 o cB cI cJ cZ zs_o) [(0, .ref (o 0)), (1, .int x1), (2, .int x2), (3, .int x3), (4, .int v4), (5, .int v5)] 32 []) → ∀ (K55 : Int32 → Int32 → Int32 → SM → Option (Int32 × SM)), (∀ (v4 : Int32) (v5 : Int32) (v6 : Int32) (zs_o : SM), K55 v4 v5 v6 zs_o = some r → gW p l e rm_X12_fewestOf s m args below meth c D A 11 (MQ below (QM D (tyL cB cI cJ cZ) (some (.int r.1)) (wX12 o cB cI cJ cZ s_o) (wX12 o cB cI cJ cZ r.2) s.heap.size) args s 0 0 A) 0 0 (wX12 o cB cI cJ cZ zs_o) [(0, .ref (o 0)), (1, .int x1), (2, .int x2), (3, .int x3), (4, .int v4), (5, .int v5), (6, .int v6)] 55 []) → ∀ (n : Nat) (v4 : Int32) (v5 : Int32) (v6 : Int32) (v7 : Int32) (v8 : Int32) (zs_o : SM), F_X12_fewestOf_b123 x1 x2 x3 K32 K55 n v4 v5 v6 v7 v8 zs_o = some r → gW p l e rm_X12_fewestOf s m args below meth c D A 11 (MQ below (QM D (tyL cB cI cJ cZ) (some (.int r.1)) (wX12 o cB cI cJ cZ s_o) (wX12 o cB cI cJ cZ r.2) s.heap.size) args s 0 0 A) 0 0 (wX12 o cB cI cJ cZ zs_o) [(0, .ref (o 0)), (1, .int x1), (2, .int x2), (3, .int x3), (4, .int v4), (5, .int v5), (6, .int v6), (7, .int v7), (8, .int v8)] 123 [] := by
    intro K32 kh32 K55 kh55 n
    induction n with
    | zero => intro v4 v5 v6 v7 v8 zs_o hf; rw [F_X12_fewestOf_b123] at hf; cases hf
    | succ n ih =>
      intro v4 v5 v6 v7 v8 zs_o hf
      rw [F_X12_fewestOf_b123] at hf
      refine g_il cx 8 dX12_fewestOf_123 rfl ?_
      refine g_aln cx 0 dX12_fewestOf_125 rfl ?_
      refine mg_words cx dX12_fewestOf_126 ?_
      refine g_ic_ge (tgt := 244) cx hf dX12_fewestOf_129 rfl (fun hf => ?_) (fun hf => ?_)
      · refine g_sub [0, 1, 2, 3, 4, 5, 6] rfl ?_
        exact h244 _ kh32 _ kh55 _ _ _ _ hf
      · refine g_il cx 7 dX12_fewestOf_132 rfl ?_
        refine g_if_eq (tgt := 244) cx hf dX12_fewestOf_134 rfl (fun hf => ?_) (fun hf => ?_)
        · refine g_sub [0, 1, 2, 3, 4, 5, 6] rfl ?_
          exact h244 _ kh32 _ kh55 _ _ _ _ hf
        · refine g_il cx 4 dX12_fewestOf_137 rfl ?_
          refine g_if_ne (tgt := 157) cx hf dX12_fewestOf_139 rfl (fun hf => ?_) (fun hf => ?_)
          · refine g_il cx 8 dX12_fewestOf_157 rfl ?_
            refine g_il cx 6 dX12_fewestOf_159 rfl ?_
            refine g_ic_eq (tgt := 168) cx hf dX12_fewestOf_161 rfl (fun hf => ?_) (fun hf => ?_)
            · refine g_ic cx dX12_fewestOf_168 k_ic0 ?_
              exact h169 _ kh32 _ kh55 _ ih _ _ _ _ _ _ _ hf
            · refine g_ic cx dX12_fewestOf_164 k_ic1 ?_
              refine g_goto (tgt := 169) cx dX12_fewestOf_165 rfl ?_
              exact h169 _ kh32 _ kh55 _ ih _ _ _ _ _ _ _ hf
          · refine g_il cx 8 dX12_fewestOf_142 rfl ?_
            refine g_il cx 6 dX12_fewestOf_144 rfl ?_
            refine g_ic_ne (tgt := 153) cx hf dX12_fewestOf_146 rfl (fun hf => ?_) (fun hf => ?_)
            · refine g_ic cx dX12_fewestOf_153 k_ic0 ?_
              refine g_goto (tgt := 169) cx dX12_fewestOf_154 rfl ?_
              exact h169 _ kh32 _ kh55 _ ih _ _ _ _ _ _ _ hf
            · refine g_ic cx dX12_fewestOf_149 k_ic1 ?_
              refine g_goto (tgt := 169) cx dX12_fewestOf_150 rfl ?_
              exact h169 _ kh32 _ kh55 _ ih _ _ _ _ _ _ _ hf
  have h118 : ∀ (K32 : Int32 → Int32 → SM → Option (Int32 × SM)), (∀ (v4 : Int32) (v5 : Int32) (zs_o : SM), K32 v4 v5 zs_o = some r → gW p l e rm_X12_fewestOf s m args below meth c D A 11 (MQ below (QM D (tyL cB cI cJ cZ) (some (.int r.1)) (wX12 o cB cI cJ cZ s_o) (wX12 o cB cI cJ cZ r.2) s.heap.size) args s 0 0 A) 0 0 (wX12 o cB cI cJ cZ zs_o) [(0, .ref (o 0)), (1, .int x1), (2, .int x2), (3, .int x3), (4, .int v4), (5, .int v5)] 32 []) → ∀ (K55 : Int32 → Int32 → Int32 → SM → Option (Int32 × SM)), (∀ (v4 : Int32) (v5 : Int32) (v6 : Int32) (zs_o : SM), K55 v4 v5 v6 zs_o = some r → gW p l e rm_X12_fewestOf s m args below meth c D A 11 (MQ below (QM D (tyL cB cI cJ cZ) (some (.int r.1)) (wX12 o cB cI cJ cZ s_o) (wX12 o cB cI cJ cZ r.2) s.heap.size) args s 0 0 A) 0 0 (wX12 o cB cI cJ cZ zs_o) [(0, .ref (o 0)), (1, .int x1), (2, .int x2), (3, .int x3), (4, .int v4), (5, .int v5), (6, .int v6)] 55 []) → ∀ (v4 : Int32) (v5 : Int32) (v6 : Int32) (zs_o : SM) (k0 : Int32), F_X12_fewestOf_b118 x1 x2 x3 K32 K55 v4 v5 v6 zs_o k0 = some r → gW p l e rm_X12_fewestOf s m args below meth c D A 11 (MQ below (QM D (tyL cB cI cJ cZ) (some (.int r.1)) (wX12 o cB cI cJ cZ s_o) (wX12 o cB cI cJ cZ r.2) s.heap.size) args s 0 0 A) 0 0 (wX12 o cB cI cJ cZ zs_o) [(0, .ref (o 0)), (1, .int x1), (2, .int x2), (3, .int x3), (4, .int v4), (5, .int v5), (6, .int v6)] 118 [.int k0] := by
    intro K32 kh32 K55 kh55 v4 v5 v6 zs_o k0 hf
    rw [F_X12_fewestOf_b118] at hf
    refine g_is cx (L2 := fun v7_12 => [(7, .int v7_12), (0, .ref (o 0)), (1, .int x1), (2, .int x2), (3, .int x3), (4, .int v4), (5, .int v5), (6, .int v6)]) hf dX12_fewestOf_118 (Nat.le_of_ble_eq_true rfl) (fun _ => rfl) (fun v7_12 hf => ?_)
    refine g_ic cx dX12_fewestOf_120 k_ic0 ?_
    refine g_is cx (L2 := fun v8_13 => [(8, .int v8_13), (7, .int v7_12), (0, .ref (o 0)), (1, .int x1), (2, .int x2), (3, .int x3), (4, .int v4), (5, .int v5), (6, .int v6)]) hf dX12_fewestOf_121 (Nat.le_of_ble_eq_true rfl) (fun _ => rfl) (fun v8_13 hf => ?_)
    refine g_sub [2, 3, 4, 5, 6, 7, 8, 1, 0] rfl ?_
    exact h123 _ kh32 _ kh55 fu _ _ _ _ _ _ hf
  have h117 : ∀ (K32 : Int32 → Int32 → SM → Option (Int32 × SM)), (∀ (v4 : Int32) (v5 : Int32) (zs_o : SM), K32 v4 v5 zs_o = some r → gW p l e rm_X12_fewestOf s m args below meth c D A 11 (MQ below (QM D (tyL cB cI cJ cZ) (some (.int r.1)) (wX12 o cB cI cJ cZ s_o) (wX12 o cB cI cJ cZ r.2) s.heap.size) args s 0 0 A) 0 0 (wX12 o cB cI cJ cZ zs_o) [(0, .ref (o 0)), (1, .int x1), (2, .int x2), (3, .int x3), (4, .int v4), (5, .int v5)] 32 []) → ∀ (K55 : Int32 → Int32 → Int32 → SM → Option (Int32 × SM)), (∀ (v4 : Int32) (v5 : Int32) (v6 : Int32) (zs_o : SM), K55 v4 v5 v6 zs_o = some r → gW p l e rm_X12_fewestOf s m args below meth c D A 11 (MQ below (QM D (tyL cB cI cJ cZ) (some (.int r.1)) (wX12 o cB cI cJ cZ s_o) (wX12 o cB cI cJ cZ r.2) s.heap.size) args s 0 0 A) 0 0 (wX12 o cB cI cJ cZ zs_o) [(0, .ref (o 0)), (1, .int x1), (2, .int x2), (3, .int x3), (4, .int v4), (5, .int v5), (6, .int v6)] 55 []) → ∀ (v4 : Int32) (v5 : Int32) (v6 : Int32) (zs_o : SM), F_X12_fewestOf_b117 x1 x2 x3 K32 K55 v4 v5 v6 zs_o = some r → gW p l e rm_X12_fewestOf s m args below meth c D A 11 (MQ below (QM D (tyL cB cI cJ cZ) (some (.int r.1)) (wX12 o cB cI cJ cZ s_o) (wX12 o cB cI cJ cZ r.2) s.heap.size) args s 0 0 A) 0 0 (wX12 o cB cI cJ cZ zs_o) [(0, .ref (o 0)), (1, .int x1), (2, .int x2), (3, .int x3), (4, .int v4), (5, .int v5), (6, .int v6)] 117 [] := by
    intro K32 kh32 K55 kh55 v4 v5 v6 zs_o hf
    rw [F_X12_fewestOf_b117] at hf
    refine g_ic cx dX12_fewestOf_117 k_ic0 ?_
    exact h118 _ kh32 _ kh55 _ _ _ _ _ hf
  have h253 : ∀ (K32 : Int32 → Int32 → SM → Option (Int32 × SM)), (∀ (v4 : Int32) (v5 : Int32) (zs_o : SM), K32 v4 v5 zs_o = some r → gW p l e rm_X12_fewestOf s m args below meth c D A 11 (MQ below (QM D (tyL cB cI cJ cZ) (some (.int r.1)) (wX12 o cB cI cJ cZ s_o) (wX12 o cB cI cJ cZ r.2) s.heap.size) args s 0 0 A) 0 0 (wX12 o cB cI cJ cZ zs_o) [(0, .ref (o 0)), (1, .int x1), (2, .int x2), (3, .int x3), (4, .int v4), (5, .int v5)] 32 []) → ∀ (n : Nat) (v4 : Int32) (v5 : Int32) (v6 : Int32) (zs_o : SM), F_X12_fewestOf_b253 x1 x2 x3 K32 n v4 v5 v6 zs_o = some r → gW p l e rm_X12_fewestOf s m args below meth c D A 11 (MQ below (QM D (tyL cB cI cJ cZ) (some (.int r.1)) (wX12 o cB cI cJ cZ s_o) (wX12 o cB cI cJ cZ r.2) s.heap.size) args s 0 0 A) 0 0 (wX12 o cB cI cJ cZ zs_o) [(0, .ref (o 0)), (1, .int x1), (2, .int x2), (3, .int x3), (4, .int v4), (5, .int v5), (6, .int v6)] 253 [] := by
    intro K32 kh32 n
    induction n with
    | zero => intro v4 v5 v6 zs_o hf; rw [F_X12_fewestOf_b253] at hf; cases hf
    | succ n ih =>
      intro v4 v5 v6 zs_o hf
      rw [F_X12_fewestOf_b253] at hf
      refine g_il cx 6 dX12_fewestOf_253 rfl ?_
      refine g_aln cx 0 dX12_fewestOf_255 rfl ?_
      refine mg_words cx dX12_fewestOf_256 ?_
      refine g_ic_ge (tgt := 282) cx hf dX12_fewestOf_259 rfl (fun hf => ?_) (fun hf => ?_)
      · refine g_inc cx (L2 := fun v4_14 => [(4, .int v4_14), (0, .ref (o 0)), (1, .int x1), (2, .int x2), (3, .int x3), (5, .int v5), (6, .int v6)]) 4 hf dX12_fewestOf_282 rfl (k_inc1 _) (Nat.le_of_ble_eq_true rfl) (fun _ => rfl) (fun v4_14 hf => ?_)
        refine g_sub [1, 2, 3, 4, 0, 5] rfl ?_
        exact h285 _ kh32 _ _ _ hf
      · refine g_aln cx 0 dX12_fewestOf_262 rfl ?_
        refine mg_least cx dX12_fewestOf_263 ?_
        refine g_il cx 6 dX12_fewestOf_266 rfl ?_
        refine g_aln cx 0 dX12_fewestOf_268 rfl ?_
        refine mg_leastThen cx dX12_fewestOf_269 ?_
        refine g_il cx 6 dX12_fewestOf_272 rfl ?_
        refine ml_leastThen cx hf dX12_fewestOf_274 (fun e_15 hf => ?_)
        refine ms_least cx hf dX12_fewestOf_275 (fun s_o_17 hf => ?_)
        refine g_inc cx (L2 := fun v6_18 => [(6, .int v6_18), (0, .ref (o 0)), (1, .int x1), (2, .int x2), (3, .int x3), (4, .int v4), (5, .int v5)]) 6 hf dX12_fewestOf_276 rfl (k_inc1 _) (Nat.le_of_ble_eq_true rfl) (fun _ => rfl) (fun v6_18 hf => ?_)
        refine g_goto (tgt := 253) cx dX12_fewestOf_279 rfl ?_
        refine g_sub [1, 2, 3, 4, 5, 6, 0] rfl ?_
        exact ih _ _ _ _ hf
  have h55 : ∀ (K32 : Int32 → Int32 → SM → Option (Int32 × SM)), (∀ (v4 : Int32) (v5 : Int32) (zs_o : SM), K32 v4 v5 zs_o = some r → gW p l e rm_X12_fewestOf s m args below meth c D A 11 (MQ below (QM D (tyL cB cI cJ cZ) (some (.int r.1)) (wX12 o cB cI cJ cZ s_o) (wX12 o cB cI cJ cZ r.2) s.heap.size) args s 0 0 A) 0 0 (wX12 o cB cI cJ cZ zs_o) [(0, .ref (o 0)), (1, .int x1), (2, .int x2), (3, .int x3), (4, .int v4), (5, .int v5)] 32 []) → ∀ (n : Nat) (v4 : Int32) (v5 : Int32) (v6 : Int32) (zs_o : SM), F_X12_fewestOf_b55 x1 x2 x3 K32 n v4 v5 v6 zs_o = some r → gW p l e rm_X12_fewestOf s m args below meth c D A 11 (MQ below (QM D (tyL cB cI cJ cZ) (some (.int r.1)) (wX12 o cB cI cJ cZ s_o) (wX12 o cB cI cJ cZ r.2) s.heap.size) args s 0 0 A) 0 0 (wX12 o cB cI cJ cZ zs_o) [(0, .ref (o 0)), (1, .int x1), (2, .int x2), (3, .int x3), (4, .int v4), (5, .int v5), (6, .int v6)] 55 [] := by
    intro K32 kh32 n
    induction n with
    | zero => intro v4 v5 v6 zs_o hf; rw [F_X12_fewestOf_b55] at hf; cases hf
    | succ n ih =>
      intro v4 v5 v6 zs_o hf
      rw [F_X12_fewestOf_b55] at hf
      refine g_il cx 6 dX12_fewestOf_55 rfl ?_
      refine g_aln cx 0 dX12_fewestOf_57 rfl ?_
      refine mg_words cx dX12_fewestOf_58 ?_
      refine g_ic_ge (tgt := 250) cx hf dX12_fewestOf_61 rfl (fun hf => ?_) (fun hf => ?_)
      · refine g_ic cx dX12_fewestOf_250 k_ic0 ?_
        refine g_is cx (L2 := fun v6_19 => [(6, .int v6_19), (0, .ref (o 0)), (1, .int x1), (2, .int x2), (3, .int x3), (4, .int v4), (5, .int v5)]) hf dX12_fewestOf_251 (Nat.le_of_ble_eq_true rfl) (fun _ => rfl) (fun v6_19 hf => ?_)
        refine g_sub [1, 2, 3, 4, 5, 6, 0] rfl ?_
        exact h253 _ kh32 fu _ _ _ _ hf
      · refine g_aln cx 0 dX12_fewestOf_64 rfl ?_
        refine mg_leastThen cx dX12_fewestOf_65 ?_
        refine g_il cx 6 dX12_fewestOf_68 rfl ?_
        refine g_sp cx dX12_fewestOf_70 k_sp1000 ?_
        refine ms_leastThen cx hf dX12_fewestOf_73 (fun s_o_21 hf => ?_)
        refine g_aln cx 0 dX12_fewestOf_74 rfl ?_
        refine mg_may cx dX12_fewestOf_75 ?_
        refine g_il cx 5 dX12_fewestOf_78 rfl ?_
        refine ml_may cx hf dX12_fewestOf_80 (fun e_22 hf => ?_)
        refine g_il cx 6 dX12_fewestOf_81 rfl ?_
        refine g_ishr cx dX12_fewestOf_83 ?_
        refine g_ic cx dX12_fewestOf_84 k_ic1 ?_
        refine g_iand cx dX12_fewestOf_85 ?_
        refine g_ic cx dX12_fewestOf_86 k_ic1 ?_
        refine g_ic_ne (tgt := 117) cx hf dX12_fewestOf_87 rfl (fun hf => ?_) (fun hf => ?_)
        · exact h117 _ kh32 _ ih _ _ _ _ hf
        · refine g_aln cx 0 dX12_fewestOf_90 rfl ?_
          refine mg_sound cx dX12_fewestOf_91 ?_
          refine g_il cx 6 dX12_fewestOf_94 rfl ?_
          refine ml_sound cx hf dX12_fewestOf_96 (fun e_23 hf => ?_)
          refine g_iln cx 3 dX12_fewestOf_97 rfl ?_
          refine g_ic_ne (tgt := 117) cx hf dX12_fewestOf_98 rfl (fun hf => ?_) (fun hf => ?_)
          · exact h117 _ kh32 _ ih _ _ _ _ hf
          · refine g_aln cx 0 dX12_fewestOf_101 rfl ?_
            refine g_iln cx 1 dX12_fewestOf_102 rfl ?_
            refine g_il cx 5 dX12_fewestOf_103 rfl ?_
            refine g_il cx 6 dX12_fewestOf_105 rfl ?_
            refine ob hf (fun q_24 hq_24 hf => ?_)
            refine g_callVFi cx lk_RX12_191 (c_X12_isMetre l D cB cI cJ cZ o s_o_21 x1 v5 v6 q_24 hq_24) rfl (ci := 10) (q1 := 0) rfl rfl rfl (Nat.le_of_ble_eq_true rfl) ⟨rfl, rfl, Nat.le_of_ble_eq_true rfl, Nat.le_of_ble_eq_true rfl⟩ dX12_fewestOf_107 ?_
            refine g_if_eq (tgt := 117) cx hf dX12_fewestOf_110 rfl (fun hf => ?_) (fun hf => ?_)
            · exact h117 _ kh32 _ ih _ _ _ _ hf
            · refine g_ic cx dX12_fewestOf_113 k_ic1 ?_
              refine g_goto (tgt := 118) cx dX12_fewestOf_114 rfl ?_
              exact h118 _ kh32 _ ih _ _ _ _ _ hf
  have h347 : ∀ (K308 : Int32 → Int32 → Int32 → SM → Option (Int32 × SM)), (∀ (v4 : Int32) (v5 : Int32) (v6 : Int32) (zs_o : SM), K308 v4 v5 v6 zs_o = some r → gW p l e rm_X12_fewestOf s m args below meth c D A 11 (MQ below (QM D (tyL cB cI cJ cZ) (some (.int r.1)) (wX12 o cB cI cJ cZ s_o) (wX12 o cB cI cJ cZ r.2) s.heap.size) args s 0 0 A) 0 0 (wX12 o cB cI cJ cZ zs_o) [(0, .ref (o 0)), (4, .int v4), (5, .int v5), (6, .int v6)] 308 []) → ∀ (v4 : Int32) (v6 : Int32) (zs_o : SM) (k0 : Int32), F_X12_fewestOf_b347 x1 x2 x3 K308 v4 v6 zs_o k0 = some r → gW p l e rm_X12_fewestOf s m args below meth c D A 11 (MQ below (QM D (tyL cB cI cJ cZ) (some (.int r.1)) (wX12 o cB cI cJ cZ s_o) (wX12 o cB cI cJ cZ r.2) s.heap.size) args s 0 0 A) 0 0 (wX12 o cB cI cJ cZ zs_o) [(0, .ref (o 0)), (4, .int v4), (6, .int v6)] 347 [.int k0] := by
    intro K308 kh308 v4 v6 zs_o k0 hf
    rw [F_X12_fewestOf_b347] at hf
    refine g_is cx (L2 := fun v5_25 => [(5, .int v5_25), (0, .ref (o 0)), (4, .int v4), (6, .int v6)]) hf dX12_fewestOf_347 (Nat.le_of_ble_eq_true rfl) (fun _ => rfl) (fun v5_25 hf => ?_)
    refine g_inc cx (L2 := fun v6_26 => [(6, .int v6_26), (5, .int v5_25), (0, .ref (o 0)), (4, .int v4)]) 3 hf dX12_fewestOf_349 rfl (k_inc1 _) (Nat.le_of_ble_eq_true rfl) (fun _ => rfl) (fun v6_26 hf => ?_)
    refine g_goto (tgt := 308) cx dX12_fewestOf_352 rfl ?_
    refine g_sub [2, 3, 1, 0] rfl ?_
    exact kh308 _ _ _ _ hf
  have h308 : ∀ (n : Nat) (v4 : Int32) (v5 : Int32) (v6 : Int32) (zs_o : SM), F_X12_fewestOf_b308 x1 x2 x3 n v4 v5 v6 zs_o = some r → gW p l e rm_X12_fewestOf s m args below meth c D A 11 (MQ below (QM D (tyL cB cI cJ cZ) (some (.int r.1)) (wX12 o cB cI cJ cZ s_o) (wX12 o cB cI cJ cZ r.2) s.heap.size) args s 0 0 A) 0 0 (wX12 o cB cI cJ cZ zs_o) [(0, .ref (o 0)), (4, .int v4), (5, .int v5), (6, .int v6)] 308 [] := by
    intro n
    induction n with
    | zero => intro v4 v5 v6 zs_o hf; rw [F_X12_fewestOf_b308] at hf; cases hf
    | succ n ih =>
      intro v4 v5 v6 zs_o hf
      rw [F_X12_fewestOf_b308] at hf
      refine g_il cx 3 dX12_fewestOf_308 rfl ?_
      refine g_aln cx 0 dX12_fewestOf_310 rfl ?_
      refine mg_words cx dX12_fewestOf_311 ?_
      refine g_ic_ge (tgt := 355) cx hf dX12_fewestOf_314 rfl (fun hf => ?_) (fun hf => ?_)
      · refine g_il cx 2 dX12_fewestOf_355 rfl ?_
        exact g_iret (ovf := fun (r : Int32 × SM) => (some (.int r.1))) (wf := fun (r : Int32 × SM) => (wX12 o cB cI cJ cZ r.2)) cx hA hr hf rfl rfl dX12_fewestOf_357
      · refine g_il cx 1 dX12_fewestOf_317 rfl ?_
        refine g_ic cx dX12_fewestOf_319 k_ic1 ?_
        refine g_ic_le (tgt := 355) cx hf dX12_fewestOf_320 rfl (fun hf => ?_) (fun hf => ?_)
        · refine g_il cx 2 dX12_fewestOf_355 rfl ?_
          exact g_iret (ovf := fun (r : Int32 × SM) => (some (.int r.1))) (wf := fun (r : Int32 × SM) => (wX12 o cB cI cJ cZ r.2)) cx hA hr hf rfl rfl dX12_fewestOf_357
        · refine g_aln cx 0 dX12_fewestOf_323 rfl ?_
          refine mg_least cx dX12_fewestOf_324 ?_
          refine g_il cx 3 dX12_fewestOf_327 rfl ?_
          refine ml_least cx hf dX12_fewestOf_329 (fun e_27 hf => ?_)
          refine g_il cx 2 dX12_fewestOf_330 rfl ?_
          refine g_ic_ge (tgt := 345) cx hf dX12_fewestOf_332 rfl (fun hf => ?_) (fun hf => ?_)
          · refine g_il cx 2 dX12_fewestOf_345 rfl ?_
            refine g_sub [0, 1, 3] rfl ?_
            exact h347 _ ih _ _ _ _ hf
          · refine g_aln cx 0 dX12_fewestOf_335 rfl ?_
            refine mg_least cx dX12_fewestOf_336 ?_
            refine g_il cx 3 dX12_fewestOf_339 rfl ?_
            refine ml_least cx hf dX12_fewestOf_341 (fun e_28 hf => ?_)
            refine g_goto (tgt := 347) cx dX12_fewestOf_342 rfl ?_
            refine g_sub [0, 1, 3] rfl ?_
            exact h347 _ ih _ _ _ _ hf
  have h303 : ∀ (v4 : Int32) (zs_o : SM) (k0 : Int32), F_X12_fewestOf_b303 x1 x2 x3 v4 zs_o k0 = some r → gW p l e rm_X12_fewestOf s m args below meth c D A 11 (MQ below (QM D (tyL cB cI cJ cZ) (some (.int r.1)) (wX12 o cB cI cJ cZ s_o) (wX12 o cB cI cJ cZ r.2) s.heap.size) args s 0 0 A) 0 0 (wX12 o cB cI cJ cZ zs_o) [(0, .ref (o 0)), (4, .int v4)] 303 [.int k0] := by
    intro v4 zs_o k0 hf
    rw [F_X12_fewestOf_b303] at hf
    refine g_is cx (L2 := fun v5_29 => [(5, .int v5_29), (0, .ref (o 0)), (4, .int v4)]) hf dX12_fewestOf_303 (Nat.le_of_ble_eq_true rfl) (fun _ => rfl) (fun v5_29 hf => ?_)
    refine g_ic cx dX12_fewestOf_305 k_ic0 ?_
    refine g_is cx (L2 := fun v6_30 => [(6, .int v6_30), (5, .int v5_29), (0, .ref (o 0)), (4, .int v4)]) hf dX12_fewestOf_306 (Nat.le_of_ble_eq_true rfl) (fun _ => rfl) (fun v6_30 hf => ?_)
    refine g_sub [2, 3, 1, 0] rfl ?_
    exact h308 fu _ _ _ _ hf
  have h32 : ∀ (n : Nat) (v4 : Int32) (v5 : Int32) (zs_o : SM), F_X12_fewestOf_b32 x1 x2 x3 n v4 v5 zs_o = some r → gW p l e rm_X12_fewestOf s m args below meth c D A 11 (MQ below (QM D (tyL cB cI cJ cZ) (some (.int r.1)) (wX12 o cB cI cJ cZ s_o) (wX12 o cB cI cJ cZ r.2) s.heap.size) args s 0 0 A) 0 0 (wX12 o cB cI cJ cZ zs_o) [(0, .ref (o 0)), (1, .int x1), (2, .int x2), (3, .int x3), (4, .int v4), (5, .int v5)] 32 [] := by
    intro n
    induction n with
    | zero => intro v4 v5 zs_o hf; rw [F_X12_fewestOf_b32] at hf; cases hf
    | succ n ih =>
      intro v4 v5 zs_o hf
      rw [F_X12_fewestOf_b32] at hf
      refine g_il cx 5 dX12_fewestOf_32 rfl ?_
      refine g_aln cx 0 dX12_fewestOf_34 rfl ?_
      refine mg_many cx dX12_fewestOf_35 ?_
      refine g_ic_ge (tgt := 291) cx hf dX12_fewestOf_38 rfl (fun hf => ?_) (fun hf => ?_)
      · refine g_il cx 4 dX12_fewestOf_291 rfl ?_
        refine g_if_ne (tgt := 300) cx hf dX12_fewestOf_293 rfl (fun hf => ?_) (fun hf => ?_)
        · refine g_sp cx dX12_fewestOf_300 k_sp1000 ?_
          refine g_sub [0, 4] rfl ?_
          exact h303 _ _ _ hf
        · refine g_ic cx dX12_fewestOf_296 k_ic0 ?_
          refine g_goto (tgt := 303) cx dX12_fewestOf_297 rfl ?_
          refine g_sub [0, 4] rfl ?_
          exact h303 _ _ _ hf
      · refine g_aln cx 0 dX12_fewestOf_41 rfl ?_
        refine g_iln cx 1 dX12_fewestOf_42 rfl ?_
        refine g_il cx 5 dX12_fewestOf_43 rfl ?_
        refine ob hf (fun q_31 hq_31 hf => ?_)
        refine g_callVFi cx lk_RX12_182 (c_X12_letterOf l D cB cI cJ cZ o zs_o x1 v5 q_31 hq_31) rfl (ci := 10) (q1 := 0) rfl rfl rfl (Nat.le_of_ble_eq_true rfl) ⟨rfl, rfl, Nat.le_of_ble_eq_true rfl, Nat.le_of_ble_eq_true rfl⟩ dX12_fewestOf_45 ?_
        refine g_iln cx 2 dX12_fewestOf_48 rfl ?_
        refine g_ic_ne (tgt := 285) cx hf dX12_fewestOf_49 rfl (fun hf => ?_) (fun hf => ?_)
        · exact h285 _ ih _ _ _ hf
        · refine g_ic cx dX12_fewestOf_52 k_ic0 ?_
          refine g_is cx (L2 := fun v6_32 => [(6, .int v6_32), (0, .ref (o 0)), (1, .int x1), (2, .int x2), (3, .int x3), (4, .int v4), (5, .int v5)]) hf dX12_fewestOf_53 (Nat.le_of_ble_eq_true rfl) (fun _ => rfl) (fun v6_32 hf => ?_)
          refine g_sub [1, 2, 3, 4, 5, 6, 0] rfl ?_
          exact h55 _ ih fu _ _ _ _ hf
  have h6 : ∀ (n : Nat) (v4 : Int32) (v5 : Int32) (zs_o : SM), F_X12_fewestOf_b6 x1 x2 x3 n v4 v5 zs_o = some r → gW p l e rm_X12_fewestOf s m args below meth c D A 11 (MQ below (QM D (tyL cB cI cJ cZ) (some (.int r.1)) (wX12 o cB cI cJ cZ s_o) (wX12 o cB cI cJ cZ r.2) s.heap.size) args s 0 0 A) 0 0 (wX12 o cB cI cJ cZ zs_o) [(0, .ref (o 0)), (1, .int x1), (2, .int x2), (3, .int x3), (4, .int v4), (5, .int v5)] 6 [] := by
    intro n
    induction n with
    | zero => intro v4 v5 zs_o hf; rw [F_X12_fewestOf_b6] at hf; cases hf
    | succ n ih =>
      intro v4 v5 zs_o hf
      rw [F_X12_fewestOf_b6] at hf
      refine g_il cx 5 dX12_fewestOf_6 rfl ?_
      refine g_aln cx 0 dX12_fewestOf_8 rfl ?_
      refine mg_words cx dX12_fewestOf_9 ?_
      refine g_ic_ge (tgt := 29) cx hf dX12_fewestOf_12 rfl (fun hf => ?_) (fun hf => ?_)
      · refine g_ic cx dX12_fewestOf_29 k_ic0 ?_
        refine g_is cx (L2 := fun v5_33 => [(5, .int v5_33), (0, .ref (o 0)), (1, .int x1), (2, .int x2), (3, .int x3), (4, .int v4)]) hf dX12_fewestOf_30 (Nat.le_of_ble_eq_true rfl) (fun _ => rfl) (fun v5_33 hf => ?_)
        refine g_sub [1, 2, 3, 4, 5, 0] rfl ?_
        exact h32 fu _ _ _ hf
      · refine g_aln cx 0 dX12_fewestOf_15 rfl ?_
        refine mg_least cx dX12_fewestOf_16 ?_
        refine g_il cx 5 dX12_fewestOf_19 rfl ?_
        refine g_ic cx dX12_fewestOf_21 k_ic0 ?_
        refine ms_least cx hf dX12_fewestOf_22 (fun s_o_35 hf => ?_)
        refine g_inc cx (L2 := fun v5_36 => [(5, .int v5_36), (0, .ref (o 0)), (1, .int x1), (2, .int x2), (3, .int x3), (4, .int v4)]) 5 hf dX12_fewestOf_23 rfl (k_inc1 _) (Nat.le_of_ble_eq_true rfl) (fun _ => rfl) (fun v5_36 hf => ?_)
        refine g_goto (tgt := 6) cx dX12_fewestOf_26 rfl ?_
        refine g_sub [1, 2, 3, 4, 5, 0] rfl ?_
        exact ih _ _ _ hf
  rw [F_X12_fewestOf] at hf
  refine g_ic cx dX12_fewestOf_0 k_ic0 ?_
  refine g_is cx (L2 := fun v4_37 => [(4, .int v4_37), (0, .ref (o 0)), (1, .int x1), (2, .int x2), (3, .int x3)]) hf dX12_fewestOf_1 (Nat.le_of_ble_eq_true rfl) (fun _ => rfl) (fun v4_37 hf => ?_)
  refine g_ic cx dX12_fewestOf_3 k_ic0 ?_
  refine g_is cx (L2 := fun v5_38 => [(5, .int v5_38), (4, .int v4_37), (0, .ref (o 0)), (1, .int x1), (2, .int x2), (3, .int x3)]) hf dX12_fewestOf_4 (Nat.le_of_ble_eq_true rfl) (fun _ => rfl) (fun v5_38 hf => ?_)
  refine g_sub [2, 3, 4, 5, 1, 0] rfl ?_
  exact h6 fu _ _ _ hf
theorem dX12_fewestAll_0 : decode cX12_fewestAll 0 = .ok (.iconst 0, 1) := by decide +kernel
theorem dX12_fewestAll_1 : decode cX12_fewestAll 1 = .ok (.istore_n 2, 1) := by decide +kernel
theorem dX12_fewestAll_2 : decode cX12_fewestAll 2 = .ok (.iconst 0, 1) := by decide +kernel
theorem dX12_fewestAll_3 : decode cX12_fewestAll 3 = .ok (.istore_n 3, 1) := by decide +kernel
theorem dX12_fewestAll_4 : decode cX12_fewestAll 4 = .ok (.iload_n 3, 1) := by decide +kernel
theorem dX12_fewestAll_5 : decode cX12_fewestAll 5 = .ok (.bipush 8, 2) := by decide +kernel
theorem dX12_fewestAll_7 : decode cX12_fewestAll 7 = .ok (.if_icmp .ge 61, 3) := by decide +kernel
theorem dX12_fewestAll_10 : decode cX12_fewestAll 10 = .ok (.sipush 1000, 3) := by decide +kernel
theorem dX12_fewestAll_13 : decode cX12_fewestAll 13 = .ok (.istore 4, 2) := by decide +kernel
theorem dX12_fewestAll_15 : decode cX12_fewestAll 15 = .ok (.iconst 0, 1) := by decide +kernel
theorem dX12_fewestAll_16 : decode cX12_fewestAll 16 = .ok (.istore 5, 2) := by decide +kernel
theorem dX12_fewestAll_18 : decode cX12_fewestAll 18 = .ok (.iload 5, 2) := by decide +kernel
theorem dX12_fewestAll_20 : decode cX12_fewestAll 20 = .ok (.bipush 26, 2) := by decide +kernel
theorem dX12_fewestAll_22 : decode cX12_fewestAll 22 = .ok (.if_icmp .ge 35, 3) := by decide +kernel
theorem dX12_fewestAll_25 : decode cX12_fewestAll 25 = .ok (.aload_n 0, 1) := by decide +kernel
theorem dX12_fewestAll_26 : decode cX12_fewestAll 26 = .ok (.iload_n 1, 1) := by decide +kernel
theorem dX12_fewestAll_27 : decode cX12_fewestAll 27 = .ok (.iload_n 3, 1) := by decide +kernel
theorem dX12_fewestAll_28 : decode cX12_fewestAll 28 = .ok (.iload 5, 2) := by decide +kernel
theorem dX12_fewestAll_30 : decode cX12_fewestAll 30 = .ok (.invokevirtual 226, 3) := by decide +kernel
theorem dX12_fewestAll_33 : decode cX12_fewestAll 33 = .ok (.istore 6, 2) := by decide +kernel
theorem dX12_fewestAll_35 : decode cX12_fewestAll 35 = .ok (.iload 6, 2) := by decide +kernel
theorem dX12_fewestAll_37 : decode cX12_fewestAll 37 = .ok (.iload 4, 2) := by decide +kernel
theorem dX12_fewestAll_39 : decode cX12_fewestAll 39 = .ok (.if_icmp .ge 8, 3) := by decide +kernel
theorem dX12_fewestAll_42 : decode cX12_fewestAll 42 = .ok (.iload 6, 2) := by decide +kernel
theorem dX12_fewestAll_44 : decode cX12_fewestAll 44 = .ok (.goto 5, 3) := by decide +kernel
theorem dX12_fewestAll_47 : decode cX12_fewestAll 47 = .ok (.iload 4, 2) := by decide +kernel
theorem dX12_fewestAll_49 : decode cX12_fewestAll 49 = .ok (.istore 4, 2) := by decide +kernel
theorem dX12_fewestAll_51 : decode cX12_fewestAll 51 = .ok (.iinc 5 1, 3) := by decide +kernel
theorem dX12_fewestAll_54 : decode cX12_fewestAll 54 = .ok (.goto (-36), 3) := by decide +kernel
theorem dX12_fewestAll_57 : decode cX12_fewestAll 57 = .ok (.iload_n 2, 1) := by decide +kernel
theorem dX12_fewestAll_58 : decode cX12_fewestAll 58 = .ok (.iload 4, 2) := by decide +kernel
theorem dX12_fewestAll_60 : decode cX12_fewestAll 60 = .ok (.iadd, 1) := by decide +kernel
theorem dX12_fewestAll_61 : decode cX12_fewestAll 61 = .ok (.istore_n 2, 1) := by decide +kernel
theorem dX12_fewestAll_62 : decode cX12_fewestAll 62 = .ok (.iinc 3 1, 3) := by decide +kernel
theorem dX12_fewestAll_65 : decode cX12_fewestAll 65 = .ok (.goto (-61), 3) := by decide +kernel
theorem dX12_fewestAll_68 : decode cX12_fewestAll 68 = .ok (.iload_n 2, 1) := by decide +kernel
theorem dX12_fewestAll_69 : decode cX12_fewestAll 69 = .ok (.sipush 1000, 3) := by decide +kernel
theorem dX12_fewestAll_72 : decode cX12_fewestAll 72 = .ok (.if_icmp .le 9, 3) := by decide +kernel
theorem dX12_fewestAll_75 : decode cX12_fewestAll 75 = .ok (.sipush 1000, 3) := by decide +kernel
theorem dX12_fewestAll_78 : decode cX12_fewestAll 78 = .ok (.goto 4, 3) := by decide +kernel
theorem dX12_fewestAll_81 : decode cX12_fewestAll 81 = .ok (.iload_n 2, 1) := by decide +kernel
theorem dX12_fewestAll_82 : decode cX12_fewestAll 82 = .ok (.ireturn, 1) := by decide +kernel
theorem k_bp26 : (Int8.ofInt (26)).toInt32 = 26 := by decide
theorem q0_55 : Cond.selects RX12 yX12_fewestOf yX12_fewestOf ∈ TT := tq0 55 rfl rfl
theorem q6_50 : Cond.methodLink RX12 226 yX12_fewestOf ∈ TT := tq6 50 rfl rfl
theorem q6_52 : Cond.instanceMethod yX12_fewestOf ∈ TT := tq6 52 rfl rfl
theorem q6_53 : Cond.code yX12_fewestOf cX12_fewestOf 11 (some .int) ∈ TT := tq6 53 rfl rfl
theorem lk_RX12_226 : vlk RX12 226 yX12_fewestOf cX12_fewestOf 11 (some .int) 3 := ⟨List.forall_mem_cons.mpr ⟨q6_50, List.forall_mem_cons.mpr ⟨q6_52, List.forall_mem_cons.mpr ⟨q0_55, List.forall_mem_cons.mpr ⟨q1_12, fun _ h => absurd h List.not_mem_nil⟩⟩⟩⟩, q6_53, by decide, by decide, by decide +kernel⟩
def F_X12_fewestAll_b49 (x1 : Int32) (K4 : Int32 → Int32 → SM → Option (Int32 × SM)) (K18 : Int32 → Int32 → Int32 → Int32 → SM → Option (Int32 × SM)) (v2 : Int32) (v3 : Int32) (v5 : Int32) (zs_o : SM) (k0 : Int32) : Option (Int32 × SM) := nm k0 fun v4_1 => nm (v5 + 1) fun v5_2 => K18 v2 v3 v4_1 v5_2 zs_o
def F_X12_fewestAll_b18 (x1 : Int32) (K4 : Int32 → Int32 → SM → Option (Int32 × SM)) : Nat → Int32 → Int32 → Int32 → Int32 → SM → Option (Int32 × SM)
  | 0, _, _, _, _, _ => none
  | n + 1, v2, v3, v4, v5, zs_o => (if 26 ≤ v5 then nm (v2 + v4) fun v2_3 => nm (v3 + 1) fun v3_4 => K4 v2_3 v3_4 zs_o else (F_X12_fewestOf zs_o x1 v3 v5).bind fun q_5 => nm q_5.1 fun v6_6 => (if v4 ≤ v6_6 then F_X12_fewestAll_b49 x1 K4 (F_X12_fewestAll_b18 x1 K4 n) v2 v3 v5 q_5.2 v4 else F_X12_fewestAll_b49 x1 K4 (F_X12_fewestAll_b18 x1 K4 n) v2 v3 v5 q_5.2 v6_6))
def F_X12_fewestAll_b4 (x1 : Int32) : Nat → Int32 → Int32 → SM → Option (Int32 × SM)
  | 0, _, _, _ => none
  | n + 1, v2, v3, zs_o => (if 8 ≤ v3 then (if v2 ≤ 1000 then some (v2, zs_o) else some (1000, zs_o)) else nm 1000 fun v4_7 => nm 0 fun v5_8 => F_X12_fewestAll_b18 x1 (F_X12_fewestAll_b4 x1 n) fu v2 v3 v4_7 v5_8 zs_o)
def F_X12_fewestAll (s_o : SM) (x1 : Int32) : Option (Int32 × SM) := nm 0 fun v2_9 => nm 0 fun v3_10 => F_X12_fewestAll_b4 x1 fu v2_9 v3_10 s_o

abbrev rm_X12_fewestAll : Room := { frames := 3, cells := 0, slots := 0, locals := 76 }
set_option maxHeartbeats 4000000 in
set_option maxRecDepth 100000 in
theorem c_X12_fewestAll (l : Launch) (D : gG) (cB cI cJ cZ : ClassId) (o : Nat → Nat) (s_o : SM) (x1 : Int32) (r : Int32 × SM) (hf : F_X12_fewestAll s_o x1 = some r) : gM l D (tyL cB cI cJ cZ) yX12_fewestAll cX12_fewestAll 7 (some .int) rm_X12_fewestAll [.ref (o 0), .int x1] (wX12 o cB cI cJ cZ s_o) (some (.int r.1)) (wX12 o cB cI cJ cZ r.2) := by
  refine met_of (by decide) (Nat.le_of_ble_eq_true rfl) ?_
  intro p e s m args below meth c A cx hr hA
  show gW p l e rm_X12_fewestAll s m args below meth c D A 7 _ 0 0 _ [(0, .ref (o 0)), (1, .int x1)] 0 []
  have h49 : ∀ (K4 : Int32 → Int32 → SM → Option (Int32 × SM)), (∀ (v2 : Int32) (v3 : Int32) (zs_o : SM), K4 v2 v3 zs_o = some r → gW p l e rm_X12_fewestAll s m args below meth c D A 7 (MQ below (QM D (tyL cB cI cJ cZ) (some (.int r.1)) (wX12 o cB cI cJ cZ s_o) (wX12 o cB cI cJ cZ r.2) s.heap.size) args s 0 0 A) 0 0 (wX12 o cB cI cJ cZ zs_o) [(0, .ref (o 0)), (1, .int x1), (2, .int v2), (3, .int v3)] 4 []) → ∀ (K18 : Int32 → Int32 → Int32 → Int32 → SM → Option (Int32 × SM)), (∀ (v2 : Int32) (v3 : Int32) (v4 : Int32) (v5 : Int32) (zs_o : SM), K18 v2 v3 v4 v5 zs_o = some r → gW p l e rm_X12_fewestAll s m args below meth c D A 7 (MQ below (QM D (tyL cB cI cJ cZ) (some (.int r.1)) (wX12 o cB cI cJ cZ s_o) (wX12 o cB cI cJ cZ r.2) s.heap.size) args s 0 0 A) 0 0 (wX12 o cB cI cJ cZ zs_o) [(0, .ref (o 0)), (1, .int x1), (2, .int v2), (3, .int v3), (4, .int v4), (5, .int v5)] 18 []) → ∀ (v2 : Int32) (v3 : Int32) (v5 : Int32) (zs_o : SM) (k0 : Int32), F_X12_fewestAll_b49 x1 K4 K18 v2 v3 v5 zs_o k0 = some r → gW p l e rm_X12_fewestAll s m args below meth c D A 7 (MQ below (QM D (tyL cB cI cJ cZ) (some (.int r.1)) (wX12 o cB cI cJ cZ s_o) (wX12 o cB cI cJ cZ r.2) s.heap.size) args s 0 0 A) 0 0 (wX12 o cB cI cJ cZ zs_o) [(0, .ref (o 0)), (1, .int x1), (2, .int v2), (3, .int v3), (5, .int v5)] 49 [.int k0] := by
    intro K4 kh4 K18 kh18 v2 v3 v5 zs_o k0 hf
    rw [F_X12_fewestAll_b49] at hf
    refine g_is cx (L2 := fun v4_1 => [(4, .int v4_1), (0, .ref (o 0)), (1, .int x1), (2, .int v2), (3, .int v3), (5, .int v5)]) hf dX12_fewestAll_49 (Nat.le_of_ble_eq_true rfl) (fun _ => rfl) (fun v4_1 hf => ?_)
    refine g_inc cx (L2 := fun v5_2 => [(5, .int v5_2), (4, .int v4_1), (0, .ref (o 0)), (1, .int x1), (2, .int v2), (3, .int v3)]) 5 hf dX12_fewestAll_51 rfl (k_inc1 _) (Nat.le_of_ble_eq_true rfl) (fun _ => rfl) (fun v5_2 hf => ?_)
    refine g_goto (tgt := 18) cx dX12_fewestAll_54 rfl ?_
    refine g_sub [2, 3, 4, 5, 1, 0] rfl ?_
    exact kh18 _ _ _ _ _ hf
  have h18 : ∀ (K4 : Int32 → Int32 → SM → Option (Int32 × SM)), (∀ (v2 : Int32) (v3 : Int32) (zs_o : SM), K4 v2 v3 zs_o = some r → gW p l e rm_X12_fewestAll s m args below meth c D A 7 (MQ below (QM D (tyL cB cI cJ cZ) (some (.int r.1)) (wX12 o cB cI cJ cZ s_o) (wX12 o cB cI cJ cZ r.2) s.heap.size) args s 0 0 A) 0 0 (wX12 o cB cI cJ cZ zs_o) [(0, .ref (o 0)), (1, .int x1), (2, .int v2), (3, .int v3)] 4 []) → ∀ (n : Nat) (v2 : Int32) (v3 : Int32) (v4 : Int32) (v5 : Int32) (zs_o : SM), F_X12_fewestAll_b18 x1 K4 n v2 v3 v4 v5 zs_o = some r → gW p l e rm_X12_fewestAll s m args below meth c D A 7 (MQ below (QM D (tyL cB cI cJ cZ) (some (.int r.1)) (wX12 o cB cI cJ cZ s_o) (wX12 o cB cI cJ cZ r.2) s.heap.size) args s 0 0 A) 0 0 (wX12 o cB cI cJ cZ zs_o) [(0, .ref (o 0)), (1, .int x1), (2, .int v2), (3, .int v3), (4, .int v4), (5, .int v5)] 18 [] := by
    intro K4 kh4 n
    induction n with
    | zero => intro v2 v3 v4 v5 zs_o hf; rw [F_X12_fewestAll_b18] at hf; cases hf
    | succ n ih =>
      intro v2 v3 v4 v5 zs_o hf
      rw [F_X12_fewestAll_b18] at hf
      refine g_il cx 5 dX12_fewestAll_18 rfl ?_
      refine g_bp cx dX12_fewestAll_20 k_bp26 ?_
      refine g_ic_ge (tgt := 57) cx hf dX12_fewestAll_22 rfl (fun hf => ?_) (fun hf => ?_)
      · refine g_iln cx 2 dX12_fewestAll_57 rfl ?_
        refine g_il cx 4 dX12_fewestAll_58 rfl ?_
        refine g_iadd cx dX12_fewestAll_60 ?_
        refine g_isn cx (L2 := fun v2_3 => [(2, .int v2_3), (0, .ref (o 0)), (1, .int x1), (3, .int v3), (4, .int v4), (5, .int v5)]) hf dX12_fewestAll_61 (Nat.le_of_ble_eq_true rfl) (fun _ => rfl) (fun v2_3 hf => ?_)
        refine g_inc cx (L2 := fun v3_4 => [(3, .int v3_4), (2, .int v2_3), (0, .ref (o 0)), (1, .int x1), (4, .int v4), (5, .int v5)]) 3 hf dX12_fewestAll_62 rfl (k_inc1 _) (Nat.le_of_ble_eq_true rfl) (fun _ => rfl) (fun v3_4 hf => ?_)
        refine g_goto (tgt := 4) cx dX12_fewestAll_65 rfl ?_
        refine g_sub [2, 3, 1, 0] rfl ?_
        exact kh4 _ _ _ hf
      · refine g_aln cx 0 dX12_fewestAll_25 rfl ?_
        refine g_iln cx 1 dX12_fewestAll_26 rfl ?_
        refine g_iln cx 3 dX12_fewestAll_27 rfl ?_
        refine g_il cx 5 dX12_fewestAll_28 rfl ?_
        refine ob hf (fun q_5 hq_5 hf => ?_)
        refine g_callVFi cx lk_RX12_226 (c_X12_fewestOf l D cB cI cJ cZ o zs_o x1 v3 v5 q_5 hq_5) rfl (ci := 10) (q1 := 0) rfl rfl rfl (Nat.le_of_ble_eq_true rfl) ⟨rfl, rfl, Nat.le_of_ble_eq_true rfl, Nat.le_of_ble_eq_true rfl⟩ dX12_fewestAll_30 ?_
        refine g_is cx (L2 := fun v6_6 => [(6, .int v6_6), (0, .ref (o 0)), (1, .int x1), (2, .int v2), (3, .int v3), (4, .int v4), (5, .int v5)]) hf dX12_fewestAll_33 (Nat.le_of_ble_eq_true rfl) (fun _ => rfl) (fun v6_6 hf => ?_)
        refine g_il cx 0 dX12_fewestAll_35 rfl ?_
        refine g_il cx 5 dX12_fewestAll_37 rfl ?_
        refine g_ic_ge (tgt := 47) cx hf dX12_fewestAll_39 rfl (fun hf => ?_) (fun hf => ?_)
        · refine g_il cx 5 dX12_fewestAll_47 rfl ?_
          refine g_sub [1, 2, 3, 4, 6] rfl ?_
          exact h49 _ kh4 _ ih _ _ _ _ _ hf
        · refine g_il cx 0 dX12_fewestAll_42 rfl ?_
          refine g_goto (tgt := 49) cx dX12_fewestAll_44 rfl ?_
          refine g_sub [1, 2, 3, 4, 6] rfl ?_
          exact h49 _ kh4 _ ih _ _ _ _ _ hf
  have h4 : ∀ (n : Nat) (v2 : Int32) (v3 : Int32) (zs_o : SM), F_X12_fewestAll_b4 x1 n v2 v3 zs_o = some r → gW p l e rm_X12_fewestAll s m args below meth c D A 7 (MQ below (QM D (tyL cB cI cJ cZ) (some (.int r.1)) (wX12 o cB cI cJ cZ s_o) (wX12 o cB cI cJ cZ r.2) s.heap.size) args s 0 0 A) 0 0 (wX12 o cB cI cJ cZ zs_o) [(0, .ref (o 0)), (1, .int x1), (2, .int v2), (3, .int v3)] 4 [] := by
    intro n
    induction n with
    | zero => intro v2 v3 zs_o hf; rw [F_X12_fewestAll_b4] at hf; cases hf
    | succ n ih =>
      intro v2 v3 zs_o hf
      rw [F_X12_fewestAll_b4] at hf
      refine g_iln cx 3 dX12_fewestAll_4 rfl ?_
      refine g_bp cx dX12_fewestAll_5 k_bp8 ?_
      refine g_ic_ge (tgt := 68) cx hf dX12_fewestAll_7 rfl (fun hf => ?_) (fun hf => ?_)
      · refine g_iln cx 2 dX12_fewestAll_68 rfl ?_
        refine g_sp cx dX12_fewestAll_69 k_sp1000 ?_
        refine g_ic_le (tgt := 81) cx hf dX12_fewestAll_72 rfl (fun hf => ?_) (fun hf => ?_)
        · refine g_iln cx 2 dX12_fewestAll_81 rfl ?_
          exact g_iret (ovf := fun (r : Int32 × SM) => (some (.int r.1))) (wf := fun (r : Int32 × SM) => (wX12 o cB cI cJ cZ r.2)) cx hA hr hf rfl rfl dX12_fewestAll_82
        · refine g_sp cx dX12_fewestAll_75 k_sp1000 ?_
          refine g_goto (tgt := 82) cx dX12_fewestAll_78 rfl ?_
          exact g_iret (ovf := fun (r : Int32 × SM) => (some (.int r.1))) (wf := fun (r : Int32 × SM) => (wX12 o cB cI cJ cZ r.2)) cx hA hr hf rfl rfl dX12_fewestAll_82
      · refine g_sp cx dX12_fewestAll_10 k_sp1000 ?_
        refine g_is cx (L2 := fun v4_7 => [(4, .int v4_7), (0, .ref (o 0)), (1, .int x1), (2, .int v2), (3, .int v3)]) hf dX12_fewestAll_13 (Nat.le_of_ble_eq_true rfl) (fun _ => rfl) (fun v4_7 hf => ?_)
        refine g_ic cx dX12_fewestAll_15 k_ic0 ?_
        refine g_is cx (L2 := fun v5_8 => [(5, .int v5_8), (4, .int v4_7), (0, .ref (o 0)), (1, .int x1), (2, .int v2), (3, .int v3)]) hf dX12_fewestAll_16 (Nat.le_of_ble_eq_true rfl) (fun _ => rfl) (fun v5_8 hf => ?_)
        refine g_sub [2, 3, 4, 5, 1, 0] rfl ?_
        exact h18 _ ih fu _ _ _ _ _ hf
  rw [F_X12_fewestAll] at hf
  refine g_ic cx dX12_fewestAll_0 k_ic0 ?_
  refine g_isn cx (L2 := fun v2_9 => [(2, .int v2_9), (0, .ref (o 0)), (1, .int x1)]) hf dX12_fewestAll_1 (Nat.le_of_ble_eq_true rfl) (fun _ => rfl) (fun v2_9 hf => ?_)
  refine g_ic cx dX12_fewestAll_2 k_ic0 ?_
  refine g_isn cx (L2 := fun v3_10 => [(3, .int v3_10), (2, .int v2_9), (0, .ref (o 0)), (1, .int x1)]) hf dX12_fewestAll_3 (Nat.le_of_ble_eq_true rfl) (fun _ => rfl) (fun v3_10 hf => ?_)
  refine g_sub [2, 3, 1, 0] rfl ?_
  exact h4 fu _ _ _ hf
def tX12_mended_17 : List Nat := 172 :: []
def tX12_mended_16 : List Nat := 46 :: 21 :: 5 :: 122 :: 4 :: 159 :: 0 :: 9 :: 132 :: 5 :: 1 :: 167 :: 255 :: 240 :: 21 :: 5 :: tX12_mended_17
def tX12_mended_15 : List Nat := 180 :: 29 :: 156 :: 0 :: 6 :: 21 :: 4 :: 172 :: 3 :: 54 :: 5 :: 42 :: 180 :: 0 :: 59 :: 29 :: tX12_mended_16
def tX12_mended_14 : List Nat := 0 :: 4 :: 3 :: 54 :: 8 :: 132 :: 7 :: 1 :: 167 :: 255 :: 207 :: 132 :: 5 :: 1 :: 167 :: 255 :: tX12_mended_15
def tX12_mended_13 : List Nat := 46 :: 153 :: 0 :: 17 :: 42 :: 27 :: 182 :: 0 :: 230 :: 21 :: 4 :: 160 :: 0 :: 7 :: 4 :: 167 :: tX12_mended_14
def tX12_mended_12 : List Nat := 21 :: 5 :: 21 :: 6 :: 4 :: 21 :: 7 :: 120 :: 126 :: 79 :: 42 :: 180 :: 0 :: 59 :: 21 :: 5 :: tX12_mended_13
def tX12_mended_11 : List Nat := 6 :: 3 :: 54 :: 7 :: 3 :: 54 :: 8 :: 21 :: 8 :: 154 :: 0 :: 50 :: 42 :: 180 :: 0 :: 59 :: tX12_mended_12
def tX12_mended_10 : List Nat := 54 :: 5 :: 21 :: 5 :: 29 :: 163 :: 0 :: 76 :: 42 :: 180 :: 0 :: 59 :: 21 :: 5 :: 46 :: 54 :: tX12_mended_11
def tX12_mended_9 : List Nat := 188 :: 153 :: 0 :: 11 :: 21 :: 4 :: 17 :: 3 :: 232 :: 161 :: 0 :: 6 :: 16 :: 247 :: 172 :: 3 :: tX12_mended_10
def tX12_mended_8 : List Nat := 132 :: 4 :: 1 :: 167 :: 255 :: 166 :: 42 :: 27 :: 182 :: 0 :: 230 :: 54 :: 4 :: 42 :: 180 :: 0 :: tX12_mended_9
def tX12_mended_7 : List Nat := 4 :: 21 :: 5 :: 120 :: 167 :: 0 :: 4 :: 3 :: 128 :: 79 :: 132 :: 5 :: 1 :: 167 :: 255 :: 192 :: tX12_mended_8
def tX12_mended_6 : List Nat := 0 :: 28 :: 4 :: 6 :: 21 :: 4 :: 104 :: 96 :: 46 :: 104 :: 5 :: 96 :: 46 :: 160 :: 0 :: 10 :: tX12_mended_7
def tX12_mended_5 : List Nat := 0 :: 13 :: 7 :: 21 :: 5 :: 104 :: 5 :: 96 :: 46 :: 42 :: 180 :: 0 :: 13 :: 7 :: 42 :: 180 :: tX12_mended_6
def tX12_mended_4 : List Nat := 180 :: 0 :: 166 :: 162 :: 0 :: 61 :: 42 :: 180 :: 0 :: 59 :: 21 :: 4 :: 92 :: 46 :: 42 :: 180 :: tX12_mended_5
def tX12_mended_3 : List Nat := 0 :: 87 :: 42 :: 180 :: 0 :: 59 :: 21 :: 4 :: 3 :: 79 :: 3 :: 54 :: 5 :: 21 :: 5 :: 42 :: tX12_mended_4
def tX12_mended_2 : List Nat := 198 :: 42 :: 28 :: 182 :: 0 :: 201 :: 3 :: 54 :: 4 :: 21 :: 4 :: 42 :: 180 :: 0 :: 188 :: 162 :: tX12_mended_3
def tX12_mended_1 : List Nat := 159 :: 0 :: 13 :: 42 :: 29 :: 182 :: 0 :: 185 :: 154 :: 0 :: 5 :: 2 :: 172 :: 42 :: 182 :: 0 :: tX12_mended_2
def tX12_mended_0 : List Nat := 42 :: 3 :: 181 :: 0 :: 78 :: 42 :: 27 :: 28 :: 182 :: 0 :: 178 :: 153 :: 0 :: 16 :: 29 :: 2 :: tX12_mended_1
theorem tX12_mendedf_0 : (cX12_mended.data.toList.map UInt8.toNat).drop 0 = tX12_mended_0 := by decide +kernel
theorem tX12_mendedf_1 : (cX12_mended.data.toList.map UInt8.toNat).drop 16 = tX12_mended_1 := fd_next (k := 0) tX12_mendedf_0 rfl
theorem tX12_mendedf_2 : (cX12_mended.data.toList.map UInt8.toNat).drop 32 = tX12_mended_2 := fd_next (k := 16) tX12_mendedf_1 rfl
theorem tX12_mendedf_3 : (cX12_mended.data.toList.map UInt8.toNat).drop 48 = tX12_mended_3 := fd_next (k := 32) tX12_mendedf_2 rfl
theorem tX12_mendedf_4 : (cX12_mended.data.toList.map UInt8.toNat).drop 64 = tX12_mended_4 := fd_next (k := 48) tX12_mendedf_3 rfl
theorem tX12_mendedf_5 : (cX12_mended.data.toList.map UInt8.toNat).drop 80 = tX12_mended_5 := fd_next (k := 64) tX12_mendedf_4 rfl
theorem tX12_mendedf_6 : (cX12_mended.data.toList.map UInt8.toNat).drop 96 = tX12_mended_6 := fd_next (k := 80) tX12_mendedf_5 rfl
theorem tX12_mendedf_7 : (cX12_mended.data.toList.map UInt8.toNat).drop 112 = tX12_mended_7 := fd_next (k := 96) tX12_mendedf_6 rfl
theorem tX12_mendedf_8 : (cX12_mended.data.toList.map UInt8.toNat).drop 128 = tX12_mended_8 := fd_next (k := 112) tX12_mendedf_7 rfl
theorem tX12_mendedf_9 : (cX12_mended.data.toList.map UInt8.toNat).drop 144 = tX12_mended_9 := fd_next (k := 128) tX12_mendedf_8 rfl
theorem tX12_mendedf_10 : (cX12_mended.data.toList.map UInt8.toNat).drop 160 = tX12_mended_10 := fd_next (k := 144) tX12_mendedf_9 rfl
theorem tX12_mendedf_11 : (cX12_mended.data.toList.map UInt8.toNat).drop 176 = tX12_mended_11 := fd_next (k := 160) tX12_mendedf_10 rfl
theorem tX12_mendedf_12 : (cX12_mended.data.toList.map UInt8.toNat).drop 192 = tX12_mended_12 := fd_next (k := 176) tX12_mendedf_11 rfl
theorem tX12_mendedf_13 : (cX12_mended.data.toList.map UInt8.toNat).drop 208 = tX12_mended_13 := fd_next (k := 192) tX12_mendedf_12 rfl
theorem tX12_mendedf_14 : (cX12_mended.data.toList.map UInt8.toNat).drop 224 = tX12_mended_14 := fd_next (k := 208) tX12_mendedf_13 rfl
theorem tX12_mendedf_15 : (cX12_mended.data.toList.map UInt8.toNat).drop 240 = tX12_mended_15 := fd_next (k := 224) tX12_mendedf_14 rfl
theorem tX12_mendedf_16 : (cX12_mended.data.toList.map UInt8.toNat).drop 256 = tX12_mended_16 := fd_next (k := 240) tX12_mendedf_15 rfl
theorem tX12_mendedf_17 : (cX12_mended.data.toList.map UInt8.toNat).drop 272 = tX12_mended_17 := fd_next (k := 256) tX12_mendedf_16 rfl
theorem dX12_mended_0 : decode cX12_mended 0 = .ok (.aload_n 0, 1) := dk_42 (fdB_of (k := 0) tX12_mendedf_0 0 42 rfl)
theorem dX12_mended_1 : decode cX12_mended 1 = .ok (.iconst 0, 1) := dk_3 (fdB_of (k := 0) tX12_mendedf_0 1 3 rfl)
theorem dX12_mended_2 : decode cX12_mended 2 = .ok (.putfield 78, 3) := dk_181 (fdB_of (k := 0) tX12_mendedf_0 2 181 rfl) (fdB_of (k := 0) tX12_mendedf_0 3 0 rfl) (fdB_of (k := 0) tX12_mendedf_0 4 78 rfl)
theorem dX12_mended_5 : decode cX12_mended 5 = .ok (.aload_n 0, 1) := dk_42 (fdB_of (k := 0) tX12_mendedf_0 5 42 rfl)
theorem dX12_mended_6 : decode cX12_mended 6 = .ok (.iload_n 1, 1) := dk_27 (fdB_of (k := 0) tX12_mendedf_0 6 27 rfl)
theorem dX12_mended_7 : decode cX12_mended 7 = .ok (.iload_n 2, 1) := dk_28 (fdB_of (k := 0) tX12_mendedf_0 7 28 rfl)
theorem dX12_mended_8 : decode cX12_mended 8 = .ok (.invokevirtual 178, 3) := dk_182 (fdB_of (k := 0) tX12_mendedf_0 8 182 rfl) (fdB_of (k := 0) tX12_mendedf_0 9 0 rfl) (fdB_of (k := 0) tX12_mendedf_0 10 178 rfl)
theorem dX12_mended_11 : decode cX12_mended 11 = .ok (.ifCond .eq 16, 3) := dk_153 (fdB_of (k := 0) tX12_mendedf_0 11 153 rfl) (fdB_of (k := 0) tX12_mendedf_0 12 0 rfl) (fdB_of (k := 0) tX12_mendedf_0 13 16 rfl) (by decide +kernel)
theorem dX12_mended_14 : decode cX12_mended 14 = .ok (.iload_n 3, 1) := dk_29 (fdB_of (k := 0) tX12_mendedf_0 14 29 rfl)
theorem dX12_mended_15 : decode cX12_mended 15 = .ok (.iconst (-1), 1) := dk_2 (fdB_of (k := 0) tX12_mendedf_0 15 2 rfl)
theorem dX12_mended_16 : decode cX12_mended 16 = .ok (.if_icmp .eq 13, 3) := dk_159 (fdB_of (k := 16) tX12_mendedf_1 0 159 rfl) (fdB_of (k := 16) tX12_mendedf_1 1 0 rfl) (fdB_of (k := 16) tX12_mendedf_1 2 13 rfl) (by decide +kernel)
theorem dX12_mended_19 : decode cX12_mended 19 = .ok (.aload_n 0, 1) := dk_42 (fdB_of (k := 16) tX12_mendedf_1 3 42 rfl)
theorem dX12_mended_20 : decode cX12_mended 20 = .ok (.iload_n 3, 1) := dk_29 (fdB_of (k := 16) tX12_mendedf_1 4 29 rfl)
theorem dX12_mended_21 : decode cX12_mended 21 = .ok (.invokevirtual 185, 3) := dk_182 (fdB_of (k := 16) tX12_mendedf_1 5 182 rfl) (fdB_of (k := 16) tX12_mendedf_1 6 0 rfl) (fdB_of (k := 16) tX12_mendedf_1 7 185 rfl)
theorem dX12_mended_24 : decode cX12_mended 24 = .ok (.ifCond .ne 5, 3) := dk_154 (fdB_of (k := 16) tX12_mendedf_1 8 154 rfl) (fdB_of (k := 16) tX12_mendedf_1 9 0 rfl) (fdB_of (k := 16) tX12_mendedf_1 10 5 rfl) (by decide +kernel)
theorem dX12_mended_27 : decode cX12_mended 27 = .ok (.iconst (-1), 1) := dk_2 (fdB_of (k := 16) tX12_mendedf_1 11 2 rfl)
theorem dX12_mended_28 : decode cX12_mended 28 = .ok (.ireturn, 1) := dk_172 (fdB_of (k := 16) tX12_mendedf_1 12 172 rfl)
theorem dX12_mended_29 : decode cX12_mended 29 = .ok (.aload_n 0, 1) := dk_42 (fdB_of (k := 16) tX12_mendedf_1 13 42 rfl)
theorem dX12_mended_30 : decode cX12_mended 30 = .ok (.invokevirtual 198, 3) := dk_182 (fdB_of (k := 16) tX12_mendedf_1 14 182 rfl) (fdB_of (k := 16) tX12_mendedf_1 15 0 rfl) (fdB_of (k := 32) tX12_mendedf_2 0 198 rfl)
theorem dX12_mended_33 : decode cX12_mended 33 = .ok (.aload_n 0, 1) := dk_42 (fdB_of (k := 32) tX12_mendedf_2 1 42 rfl)
theorem dX12_mended_34 : decode cX12_mended 34 = .ok (.iload_n 2, 1) := dk_28 (fdB_of (k := 32) tX12_mendedf_2 2 28 rfl)
theorem dX12_mended_35 : decode cX12_mended 35 = .ok (.invokevirtual 201, 3) := dk_182 (fdB_of (k := 32) tX12_mendedf_2 3 182 rfl) (fdB_of (k := 32) tX12_mendedf_2 4 0 rfl) (fdB_of (k := 32) tX12_mendedf_2 5 201 rfl)
theorem dX12_mended_38 : decode cX12_mended 38 = .ok (.iconst 0, 1) := dk_3 (fdB_of (k := 32) tX12_mendedf_2 6 3 rfl)
theorem dX12_mended_39 : decode cX12_mended 39 = .ok (.istore 4, 2) := dk_54 (fdB_of (k := 32) tX12_mendedf_2 7 54 rfl) (fdB_of (k := 32) tX12_mendedf_2 8 4 rfl)
theorem dX12_mended_41 : decode cX12_mended 41 = .ok (.iload 4, 2) := dk_21 (fdB_of (k := 32) tX12_mendedf_2 9 21 rfl) (fdB_of (k := 32) tX12_mendedf_2 10 4 rfl)
theorem dX12_mended_43 : decode cX12_mended 43 = .ok (.aload_n 0, 1) := dk_42 (fdB_of (k := 32) tX12_mendedf_2 11 42 rfl)
theorem dX12_mended_44 : decode cX12_mended 44 = .ok (.getfield 188, 3) := dk_180 (fdB_of (k := 32) tX12_mendedf_2 12 180 rfl) (fdB_of (k := 32) tX12_mendedf_2 13 0 rfl) (fdB_of (k := 32) tX12_mendedf_2 14 188 rfl)
theorem dX12_mended_47 : decode cX12_mended 47 = .ok (.if_icmp .ge 87, 3) := dk_162 (fdB_of (k := 32) tX12_mendedf_2 15 162 rfl) (fdB_of (k := 48) tX12_mendedf_3 0 0 rfl) (fdB_of (k := 48) tX12_mendedf_3 1 87 rfl) (by decide +kernel)
theorem dX12_mended_50 : decode cX12_mended 50 = .ok (.aload_n 0, 1) := dk_42 (fdB_of (k := 48) tX12_mendedf_3 2 42 rfl)
theorem dX12_mended_51 : decode cX12_mended 51 = .ok (.getfield 59, 3) := dk_180 (fdB_of (k := 48) tX12_mendedf_3 3 180 rfl) (fdB_of (k := 48) tX12_mendedf_3 4 0 rfl) (fdB_of (k := 48) tX12_mendedf_3 5 59 rfl)
theorem dX12_mended_54 : decode cX12_mended 54 = .ok (.iload 4, 2) := dk_21 (fdB_of (k := 48) tX12_mendedf_3 6 21 rfl) (fdB_of (k := 48) tX12_mendedf_3 7 4 rfl)
theorem dX12_mended_56 : decode cX12_mended 56 = .ok (.iconst 0, 1) := dk_3 (fdB_of (k := 48) tX12_mendedf_3 8 3 rfl)
theorem dX12_mended_57 : decode cX12_mended 57 = .ok (.iastore, 1) := dk_79 (fdB_of (k := 48) tX12_mendedf_3 9 79 rfl)
theorem dX12_mended_58 : decode cX12_mended 58 = .ok (.iconst 0, 1) := dk_3 (fdB_of (k := 48) tX12_mendedf_3 10 3 rfl)
theorem dX12_mended_59 : decode cX12_mended 59 = .ok (.istore 5, 2) := dk_54 (fdB_of (k := 48) tX12_mendedf_3 11 54 rfl) (fdB_of (k := 48) tX12_mendedf_3 12 5 rfl)
theorem dX12_mended_61 : decode cX12_mended 61 = .ok (.iload 5, 2) := dk_21 (fdB_of (k := 48) tX12_mendedf_3 13 21 rfl) (fdB_of (k := 48) tX12_mendedf_3 14 5 rfl)
theorem dX12_mended_63 : decode cX12_mended 63 = .ok (.aload_n 0, 1) := dk_42 (fdB_of (k := 48) tX12_mendedf_3 15 42 rfl)
theorem dX12_mended_64 : decode cX12_mended 64 = .ok (.getfield 166, 3) := dk_180 (fdB_of (k := 64) tX12_mendedf_4 0 180 rfl) (fdB_of (k := 64) tX12_mendedf_4 1 0 rfl) (fdB_of (k := 64) tX12_mendedf_4 2 166 rfl)
theorem dX12_mended_67 : decode cX12_mended 67 = .ok (.if_icmp .ge 61, 3) := dk_162 (fdB_of (k := 64) tX12_mendedf_4 3 162 rfl) (fdB_of (k := 64) tX12_mendedf_4 4 0 rfl) (fdB_of (k := 64) tX12_mendedf_4 5 61 rfl) (by decide +kernel)
theorem dX12_mended_70 : decode cX12_mended 70 = .ok (.aload_n 0, 1) := dk_42 (fdB_of (k := 64) tX12_mendedf_4 6 42 rfl)
theorem dX12_mended_71 : decode cX12_mended 71 = .ok (.getfield 59, 3) := dk_180 (fdB_of (k := 64) tX12_mendedf_4 7 180 rfl) (fdB_of (k := 64) tX12_mendedf_4 8 0 rfl) (fdB_of (k := 64) tX12_mendedf_4 9 59 rfl)
theorem dX12_mended_74 : decode cX12_mended 74 = .ok (.iload 4, 2) := dk_21 (fdB_of (k := 64) tX12_mendedf_4 10 21 rfl) (fdB_of (k := 64) tX12_mendedf_4 11 4 rfl)
theorem dX12_mended_76 : decode cX12_mended 76 = .ok (.dup2, 1) := dk_92 (fdB_of (k := 64) tX12_mendedf_4 12 92 rfl)
theorem dX12_mended_77 : decode cX12_mended 77 = .ok (.iaload, 1) := dk_46 (fdB_of (k := 64) tX12_mendedf_4 13 46 rfl)
theorem dX12_mended_78 : decode cX12_mended 78 = .ok (.aload_n 0, 1) := dk_42 (fdB_of (k := 64) tX12_mendedf_4 14 42 rfl)
theorem dX12_mended_79 : decode cX12_mended 79 = .ok (.getfield 13, 3) := dk_180 (fdB_of (k := 64) tX12_mendedf_4 15 180 rfl) (fdB_of (k := 80) tX12_mendedf_5 0 0 rfl) (fdB_of (k := 80) tX12_mendedf_5 1 13 rfl)
theorem dX12_mended_82 : decode cX12_mended 82 = .ok (.iconst 4, 1) := dk_7 (fdB_of (k := 80) tX12_mendedf_5 2 7 rfl)
theorem dX12_mended_83 : decode cX12_mended 83 = .ok (.iload 5, 2) := dk_21 (fdB_of (k := 80) tX12_mendedf_5 3 21 rfl) (fdB_of (k := 80) tX12_mendedf_5 4 5 rfl)
theorem dX12_mended_85 : decode cX12_mended 85 = .ok (.imul, 1) := dk_104 (fdB_of (k := 80) tX12_mendedf_5 5 104 rfl)
theorem dX12_mended_86 : decode cX12_mended 86 = .ok (.iconst 2, 1) := dk_5 (fdB_of (k := 80) tX12_mendedf_5 6 5 rfl)
theorem dX12_mended_87 : decode cX12_mended 87 = .ok (.iadd, 1) := dk_96 (fdB_of (k := 80) tX12_mendedf_5 7 96 rfl)
theorem dX12_mended_88 : decode cX12_mended 88 = .ok (.iaload, 1) := dk_46 (fdB_of (k := 80) tX12_mendedf_5 8 46 rfl)
theorem dX12_mended_89 : decode cX12_mended 89 = .ok (.aload_n 0, 1) := dk_42 (fdB_of (k := 80) tX12_mendedf_5 9 42 rfl)
theorem dX12_mended_90 : decode cX12_mended 90 = .ok (.getfield 13, 3) := dk_180 (fdB_of (k := 80) tX12_mendedf_5 10 180 rfl) (fdB_of (k := 80) tX12_mendedf_5 11 0 rfl) (fdB_of (k := 80) tX12_mendedf_5 12 13 rfl)
theorem dX12_mended_93 : decode cX12_mended 93 = .ok (.iconst 4, 1) := dk_7 (fdB_of (k := 80) tX12_mendedf_5 13 7 rfl)
theorem dX12_mended_94 : decode cX12_mended 94 = .ok (.aload_n 0, 1) := dk_42 (fdB_of (k := 80) tX12_mendedf_5 14 42 rfl)
theorem dX12_mended_95 : decode cX12_mended 95 = .ok (.getfield 28, 3) := dk_180 (fdB_of (k := 80) tX12_mendedf_5 15 180 rfl) (fdB_of (k := 96) tX12_mendedf_6 0 0 rfl) (fdB_of (k := 96) tX12_mendedf_6 1 28 rfl)
theorem dX12_mended_98 : decode cX12_mended 98 = .ok (.iconst 1, 1) := dk_4 (fdB_of (k := 96) tX12_mendedf_6 2 4 rfl)
theorem dX12_mended_99 : decode cX12_mended 99 = .ok (.iconst 3, 1) := dk_6 (fdB_of (k := 96) tX12_mendedf_6 3 6 rfl)
theorem dX12_mended_100 : decode cX12_mended 100 = .ok (.iload 4, 2) := dk_21 (fdB_of (k := 96) tX12_mendedf_6 4 21 rfl) (fdB_of (k := 96) tX12_mendedf_6 5 4 rfl)
theorem dX12_mended_102 : decode cX12_mended 102 = .ok (.imul, 1) := dk_104 (fdB_of (k := 96) tX12_mendedf_6 6 104 rfl)
theorem dX12_mended_103 : decode cX12_mended 103 = .ok (.iadd, 1) := dk_96 (fdB_of (k := 96) tX12_mendedf_6 7 96 rfl)
theorem dX12_mended_104 : decode cX12_mended 104 = .ok (.iaload, 1) := dk_46 (fdB_of (k := 96) tX12_mendedf_6 8 46 rfl)
theorem dX12_mended_105 : decode cX12_mended 105 = .ok (.imul, 1) := dk_104 (fdB_of (k := 96) tX12_mendedf_6 9 104 rfl)
theorem dX12_mended_106 : decode cX12_mended 106 = .ok (.iconst 2, 1) := dk_5 (fdB_of (k := 96) tX12_mendedf_6 10 5 rfl)
theorem dX12_mended_107 : decode cX12_mended 107 = .ok (.iadd, 1) := dk_96 (fdB_of (k := 96) tX12_mendedf_6 11 96 rfl)
theorem dX12_mended_108 : decode cX12_mended 108 = .ok (.iaload, 1) := dk_46 (fdB_of (k := 96) tX12_mendedf_6 12 46 rfl)
theorem dX12_mended_109 : decode cX12_mended 109 = .ok (.if_icmp .ne 10, 3) := dk_160 (fdB_of (k := 96) tX12_mendedf_6 13 160 rfl) (fdB_of (k := 96) tX12_mendedf_6 14 0 rfl) (fdB_of (k := 96) tX12_mendedf_6 15 10 rfl) (by decide +kernel)
theorem dX12_mended_112 : decode cX12_mended 112 = .ok (.iconst 1, 1) := dk_4 (fdB_of (k := 112) tX12_mendedf_7 0 4 rfl)
theorem dX12_mended_113 : decode cX12_mended 113 = .ok (.iload 5, 2) := dk_21 (fdB_of (k := 112) tX12_mendedf_7 1 21 rfl) (fdB_of (k := 112) tX12_mendedf_7 2 5 rfl)
theorem dX12_mended_115 : decode cX12_mended 115 = .ok (.ishl, 1) := dk_120 (fdB_of (k := 112) tX12_mendedf_7 3 120 rfl)
theorem dX12_mended_116 : decode cX12_mended 116 = .ok (.goto 4, 3) := dk_167 (fdB_of (k := 112) tX12_mendedf_7 4 167 rfl) (fdB_of (k := 112) tX12_mendedf_7 5 0 rfl) (fdB_of (k := 112) tX12_mendedf_7 6 4 rfl) (by decide +kernel)
theorem dX12_mended_119 : decode cX12_mended 119 = .ok (.iconst 0, 1) := dk_3 (fdB_of (k := 112) tX12_mendedf_7 7 3 rfl)
theorem dX12_mended_120 : decode cX12_mended 120 = .ok (.ior, 1) := dk_128 (fdB_of (k := 112) tX12_mendedf_7 8 128 rfl)
theorem dX12_mended_121 : decode cX12_mended 121 = .ok (.iastore, 1) := dk_79 (fdB_of (k := 112) tX12_mendedf_7 9 79 rfl)
theorem dX12_mended_122 : decode cX12_mended 122 = .ok (.iinc 5 1, 3) := dk_132 (fdB_of (k := 112) tX12_mendedf_7 10 132 rfl) (fdB_of (k := 112) tX12_mendedf_7 11 5 rfl) (fdB_of (k := 112) tX12_mendedf_7 12 1 rfl) (by decide +kernel)
theorem dX12_mended_125 : decode cX12_mended 125 = .ok (.goto (-64), 3) := dk_167 (fdB_of (k := 112) tX12_mendedf_7 13 167 rfl) (fdB_of (k := 112) tX12_mendedf_7 14 255 rfl) (fdB_of (k := 112) tX12_mendedf_7 15 192 rfl) (by decide +kernel)
theorem dX12_mended_128 : decode cX12_mended 128 = .ok (.iinc 4 1, 3) := dk_132 (fdB_of (k := 128) tX12_mendedf_8 0 132 rfl) (fdB_of (k := 128) tX12_mendedf_8 1 4 rfl) (fdB_of (k := 128) tX12_mendedf_8 2 1 rfl) (by decide +kernel)
theorem dX12_mended_131 : decode cX12_mended 131 = .ok (.goto (-90), 3) := dk_167 (fdB_of (k := 128) tX12_mendedf_8 3 167 rfl) (fdB_of (k := 128) tX12_mendedf_8 4 255 rfl) (fdB_of (k := 128) tX12_mendedf_8 5 166 rfl) (by decide +kernel)
theorem dX12_mended_134 : decode cX12_mended 134 = .ok (.aload_n 0, 1) := dk_42 (fdB_of (k := 128) tX12_mendedf_8 6 42 rfl)
theorem dX12_mended_135 : decode cX12_mended 135 = .ok (.iload_n 1, 1) := dk_27 (fdB_of (k := 128) tX12_mendedf_8 7 27 rfl)
theorem dX12_mended_136 : decode cX12_mended 136 = .ok (.invokevirtual 230, 3) := dk_182 (fdB_of (k := 128) tX12_mendedf_8 8 182 rfl) (fdB_of (k := 128) tX12_mendedf_8 9 0 rfl) (fdB_of (k := 128) tX12_mendedf_8 10 230 rfl)
theorem dX12_mended_139 : decode cX12_mended 139 = .ok (.istore 4, 2) := dk_54 (fdB_of (k := 128) tX12_mendedf_8 11 54 rfl) (fdB_of (k := 128) tX12_mendedf_8 12 4 rfl)
theorem dX12_mended_141 : decode cX12_mended 141 = .ok (.aload_n 0, 1) := dk_42 (fdB_of (k := 128) tX12_mendedf_8 13 42 rfl)
theorem dX12_mended_142 : decode cX12_mended 142 = .ok (.getfield 188, 3) := dk_180 (fdB_of (k := 128) tX12_mendedf_8 14 180 rfl) (fdB_of (k := 128) tX12_mendedf_8 15 0 rfl) (fdB_of (k := 144) tX12_mendedf_9 0 188 rfl)
theorem dX12_mended_145 : decode cX12_mended 145 = .ok (.ifCond .eq 11, 3) := dk_153 (fdB_of (k := 144) tX12_mendedf_9 1 153 rfl) (fdB_of (k := 144) tX12_mendedf_9 2 0 rfl) (fdB_of (k := 144) tX12_mendedf_9 3 11 rfl) (by decide +kernel)
theorem dX12_mended_148 : decode cX12_mended 148 = .ok (.iload 4, 2) := dk_21 (fdB_of (k := 144) tX12_mendedf_9 4 21 rfl) (fdB_of (k := 144) tX12_mendedf_9 5 4 rfl)
theorem dX12_mended_150 : decode cX12_mended 150 = .ok (.sipush 1000, 3) := dk_17 (fdB_of (k := 144) tX12_mendedf_9 6 17 rfl) (fdB_of (k := 144) tX12_mendedf_9 7 3 rfl) (fdB_of (k := 144) tX12_mendedf_9 8 232 rfl) (by decide +kernel)
theorem dX12_mended_153 : decode cX12_mended 153 = .ok (.if_icmp .lt 6, 3) := dk_161 (fdB_of (k := 144) tX12_mendedf_9 9 161 rfl) (fdB_of (k := 144) tX12_mendedf_9 10 0 rfl) (fdB_of (k := 144) tX12_mendedf_9 11 6 rfl) (by decide +kernel)
theorem dX12_mended_156 : decode cX12_mended 156 = .ok (.bipush (-9), 2) := dk_16 (fdB_of (k := 144) tX12_mendedf_9 12 16 rfl) (fdB_of (k := 144) tX12_mendedf_9 13 247 rfl) (by decide +kernel)
theorem dX12_mended_158 : decode cX12_mended 158 = .ok (.ireturn, 1) := dk_172 (fdB_of (k := 144) tX12_mendedf_9 14 172 rfl)
theorem dX12_mended_159 : decode cX12_mended 159 = .ok (.iconst 0, 1) := dk_3 (fdB_of (k := 144) tX12_mendedf_9 15 3 rfl)
theorem dX12_mended_160 : decode cX12_mended 160 = .ok (.istore 5, 2) := dk_54 (fdB_of (k := 160) tX12_mendedf_10 0 54 rfl) (fdB_of (k := 160) tX12_mendedf_10 1 5 rfl)
theorem dX12_mended_162 : decode cX12_mended 162 = .ok (.iload 5, 2) := dk_21 (fdB_of (k := 160) tX12_mendedf_10 2 21 rfl) (fdB_of (k := 160) tX12_mendedf_10 3 5 rfl)
theorem dX12_mended_164 : decode cX12_mended 164 = .ok (.iload_n 3, 1) := dk_29 (fdB_of (k := 160) tX12_mendedf_10 4 29 rfl)
theorem dX12_mended_165 : decode cX12_mended 165 = .ok (.if_icmp .gt 76, 3) := dk_163 (fdB_of (k := 160) tX12_mendedf_10 5 163 rfl) (fdB_of (k := 160) tX12_mendedf_10 6 0 rfl) (fdB_of (k := 160) tX12_mendedf_10 7 76 rfl) (by decide +kernel)
theorem dX12_mended_168 : decode cX12_mended 168 = .ok (.aload_n 0, 1) := dk_42 (fdB_of (k := 160) tX12_mendedf_10 8 42 rfl)
theorem dX12_mended_169 : decode cX12_mended 169 = .ok (.getfield 59, 3) := dk_180 (fdB_of (k := 160) tX12_mendedf_10 9 180 rfl) (fdB_of (k := 160) tX12_mendedf_10 10 0 rfl) (fdB_of (k := 160) tX12_mendedf_10 11 59 rfl)
theorem dX12_mended_172 : decode cX12_mended 172 = .ok (.iload 5, 2) := dk_21 (fdB_of (k := 160) tX12_mendedf_10 12 21 rfl) (fdB_of (k := 160) tX12_mendedf_10 13 5 rfl)
theorem dX12_mended_174 : decode cX12_mended 174 = .ok (.iaload, 1) := dk_46 (fdB_of (k := 160) tX12_mendedf_10 14 46 rfl)
theorem dX12_mended_175 : decode cX12_mended 175 = .ok (.istore 6, 2) := dk_54 (fdB_of (k := 160) tX12_mendedf_10 15 54 rfl) (fdB_of (k := 176) tX12_mendedf_11 0 6 rfl)
theorem dX12_mended_177 : decode cX12_mended 177 = .ok (.iconst 0, 1) := dk_3 (fdB_of (k := 176) tX12_mendedf_11 1 3 rfl)
theorem dX12_mended_178 : decode cX12_mended 178 = .ok (.istore 7, 2) := dk_54 (fdB_of (k := 176) tX12_mendedf_11 2 54 rfl) (fdB_of (k := 176) tX12_mendedf_11 3 7 rfl)
theorem dX12_mended_180 : decode cX12_mended 180 = .ok (.iconst 0, 1) := dk_3 (fdB_of (k := 176) tX12_mendedf_11 4 3 rfl)
theorem dX12_mended_181 : decode cX12_mended 181 = .ok (.istore 8, 2) := dk_54 (fdB_of (k := 176) tX12_mendedf_11 5 54 rfl) (fdB_of (k := 176) tX12_mendedf_11 6 8 rfl)
theorem dX12_mended_183 : decode cX12_mended 183 = .ok (.iload 8, 2) := dk_21 (fdB_of (k := 176) tX12_mendedf_11 7 21 rfl) (fdB_of (k := 176) tX12_mendedf_11 8 8 rfl)
theorem dX12_mended_185 : decode cX12_mended 185 = .ok (.ifCond .ne 50, 3) := dk_154 (fdB_of (k := 176) tX12_mendedf_11 9 154 rfl) (fdB_of (k := 176) tX12_mendedf_11 10 0 rfl) (fdB_of (k := 176) tX12_mendedf_11 11 50 rfl) (by decide +kernel)
theorem dX12_mended_188 : decode cX12_mended 188 = .ok (.aload_n 0, 1) := dk_42 (fdB_of (k := 176) tX12_mendedf_11 12 42 rfl)
theorem dX12_mended_189 : decode cX12_mended 189 = .ok (.getfield 59, 3) := dk_180 (fdB_of (k := 176) tX12_mendedf_11 13 180 rfl) (fdB_of (k := 176) tX12_mendedf_11 14 0 rfl) (fdB_of (k := 176) tX12_mendedf_11 15 59 rfl)
theorem dX12_mended_192 : decode cX12_mended 192 = .ok (.iload 5, 2) := dk_21 (fdB_of (k := 192) tX12_mendedf_12 0 21 rfl) (fdB_of (k := 192) tX12_mendedf_12 1 5 rfl)
theorem dX12_mended_194 : decode cX12_mended 194 = .ok (.iload 6, 2) := dk_21 (fdB_of (k := 192) tX12_mendedf_12 2 21 rfl) (fdB_of (k := 192) tX12_mendedf_12 3 6 rfl)
theorem dX12_mended_196 : decode cX12_mended 196 = .ok (.iconst 1, 1) := dk_4 (fdB_of (k := 192) tX12_mendedf_12 4 4 rfl)
theorem dX12_mended_197 : decode cX12_mended 197 = .ok (.iload 7, 2) := dk_21 (fdB_of (k := 192) tX12_mendedf_12 5 21 rfl) (fdB_of (k := 192) tX12_mendedf_12 6 7 rfl)
theorem dX12_mended_199 : decode cX12_mended 199 = .ok (.ishl, 1) := dk_120 (fdB_of (k := 192) tX12_mendedf_12 7 120 rfl)
theorem dX12_mended_200 : decode cX12_mended 200 = .ok (.iand, 1) := dk_126 (fdB_of (k := 192) tX12_mendedf_12 8 126 rfl)
theorem dX12_mended_201 : decode cX12_mended 201 = .ok (.iastore, 1) := dk_79 (fdB_of (k := 192) tX12_mendedf_12 9 79 rfl)
theorem dX12_mended_202 : decode cX12_mended 202 = .ok (.aload_n 0, 1) := dk_42 (fdB_of (k := 192) tX12_mendedf_12 10 42 rfl)
theorem dX12_mended_203 : decode cX12_mended 203 = .ok (.getfield 59, 3) := dk_180 (fdB_of (k := 192) tX12_mendedf_12 11 180 rfl) (fdB_of (k := 192) tX12_mendedf_12 12 0 rfl) (fdB_of (k := 192) tX12_mendedf_12 13 59 rfl)
theorem dX12_mended_206 : decode cX12_mended 206 = .ok (.iload 5, 2) := dk_21 (fdB_of (k := 192) tX12_mendedf_12 14 21 rfl) (fdB_of (k := 192) tX12_mendedf_12 15 5 rfl)
theorem dX12_mended_208 : decode cX12_mended 208 = .ok (.iaload, 1) := dk_46 (fdB_of (k := 208) tX12_mendedf_13 0 46 rfl)
theorem dX12_mended_209 : decode cX12_mended 209 = .ok (.ifCond .eq 17, 3) := dk_153 (fdB_of (k := 208) tX12_mendedf_13 1 153 rfl) (fdB_of (k := 208) tX12_mendedf_13 2 0 rfl) (fdB_of (k := 208) tX12_mendedf_13 3 17 rfl) (by decide +kernel)
theorem dX12_mended_212 : decode cX12_mended 212 = .ok (.aload_n 0, 1) := dk_42 (fdB_of (k := 208) tX12_mendedf_13 4 42 rfl)
theorem dX12_mended_213 : decode cX12_mended 213 = .ok (.iload_n 1, 1) := dk_27 (fdB_of (k := 208) tX12_mendedf_13 5 27 rfl)
theorem dX12_mended_214 : decode cX12_mended 214 = .ok (.invokevirtual 230, 3) := dk_182 (fdB_of (k := 208) tX12_mendedf_13 6 182 rfl) (fdB_of (k := 208) tX12_mendedf_13 7 0 rfl) (fdB_of (k := 208) tX12_mendedf_13 8 230 rfl)
theorem dX12_mended_217 : decode cX12_mended 217 = .ok (.iload 4, 2) := dk_21 (fdB_of (k := 208) tX12_mendedf_13 9 21 rfl) (fdB_of (k := 208) tX12_mendedf_13 10 4 rfl)
theorem dX12_mended_219 : decode cX12_mended 219 = .ok (.if_icmp .ne 7, 3) := dk_160 (fdB_of (k := 208) tX12_mendedf_13 11 160 rfl) (fdB_of (k := 208) tX12_mendedf_13 12 0 rfl) (fdB_of (k := 208) tX12_mendedf_13 13 7 rfl) (by decide +kernel)
theorem dX12_mended_222 : decode cX12_mended 222 = .ok (.iconst 1, 1) := dk_4 (fdB_of (k := 208) tX12_mendedf_13 14 4 rfl)
theorem dX12_mended_223 : decode cX12_mended 223 = .ok (.goto 4, 3) := dk_167 (fdB_of (k := 208) tX12_mendedf_13 15 167 rfl) (fdB_of (k := 224) tX12_mendedf_14 0 0 rfl) (fdB_of (k := 224) tX12_mendedf_14 1 4 rfl) (by decide +kernel)
theorem dX12_mended_226 : decode cX12_mended 226 = .ok (.iconst 0, 1) := dk_3 (fdB_of (k := 224) tX12_mendedf_14 2 3 rfl)
theorem dX12_mended_227 : decode cX12_mended 227 = .ok (.istore 8, 2) := dk_54 (fdB_of (k := 224) tX12_mendedf_14 3 54 rfl) (fdB_of (k := 224) tX12_mendedf_14 4 8 rfl)
theorem dX12_mended_229 : decode cX12_mended 229 = .ok (.iinc 7 1, 3) := dk_132 (fdB_of (k := 224) tX12_mendedf_14 5 132 rfl) (fdB_of (k := 224) tX12_mendedf_14 6 7 rfl) (fdB_of (k := 224) tX12_mendedf_14 7 1 rfl) (by decide +kernel)
theorem dX12_mended_232 : decode cX12_mended 232 = .ok (.goto (-49), 3) := dk_167 (fdB_of (k := 224) tX12_mendedf_14 8 167 rfl) (fdB_of (k := 224) tX12_mendedf_14 9 255 rfl) (fdB_of (k := 224) tX12_mendedf_14 10 207 rfl) (by decide +kernel)
theorem dX12_mended_235 : decode cX12_mended 235 = .ok (.iinc 5 1, 3) := dk_132 (fdB_of (k := 224) tX12_mendedf_14 11 132 rfl) (fdB_of (k := 224) tX12_mendedf_14 12 5 rfl) (fdB_of (k := 224) tX12_mendedf_14 13 1 rfl) (by decide +kernel)
theorem dX12_mended_238 : decode cX12_mended 238 = .ok (.goto (-76), 3) := dk_167 (fdB_of (k := 224) tX12_mendedf_14 14 167 rfl) (fdB_of (k := 224) tX12_mendedf_14 15 255 rfl) (fdB_of (k := 240) tX12_mendedf_15 0 180 rfl) (by decide +kernel)
theorem dX12_mended_241 : decode cX12_mended 241 = .ok (.iload_n 3, 1) := dk_29 (fdB_of (k := 240) tX12_mendedf_15 1 29 rfl)
theorem dX12_mended_242 : decode cX12_mended 242 = .ok (.ifCond .ge 6, 3) := dk_156 (fdB_of (k := 240) tX12_mendedf_15 2 156 rfl) (fdB_of (k := 240) tX12_mendedf_15 3 0 rfl) (fdB_of (k := 240) tX12_mendedf_15 4 6 rfl) (by decide +kernel)
theorem dX12_mended_245 : decode cX12_mended 245 = .ok (.iload 4, 2) := dk_21 (fdB_of (k := 240) tX12_mendedf_15 5 21 rfl) (fdB_of (k := 240) tX12_mendedf_15 6 4 rfl)
theorem dX12_mended_247 : decode cX12_mended 247 = .ok (.ireturn, 1) := dk_172 (fdB_of (k := 240) tX12_mendedf_15 7 172 rfl)
theorem dX12_mended_248 : decode cX12_mended 248 = .ok (.iconst 0, 1) := dk_3 (fdB_of (k := 240) tX12_mendedf_15 8 3 rfl)
theorem dX12_mended_249 : decode cX12_mended 249 = .ok (.istore 5, 2) := dk_54 (fdB_of (k := 240) tX12_mendedf_15 9 54 rfl) (fdB_of (k := 240) tX12_mendedf_15 10 5 rfl)
theorem dX12_mended_251 : decode cX12_mended 251 = .ok (.aload_n 0, 1) := dk_42 (fdB_of (k := 240) tX12_mendedf_15 11 42 rfl)
theorem dX12_mended_252 : decode cX12_mended 252 = .ok (.getfield 59, 3) := dk_180 (fdB_of (k := 240) tX12_mendedf_15 12 180 rfl) (fdB_of (k := 240) tX12_mendedf_15 13 0 rfl) (fdB_of (k := 240) tX12_mendedf_15 14 59 rfl)
theorem dX12_mended_255 : decode cX12_mended 255 = .ok (.iload_n 3, 1) := dk_29 (fdB_of (k := 240) tX12_mendedf_15 15 29 rfl)
theorem dX12_mended_256 : decode cX12_mended 256 = .ok (.iaload, 1) := dk_46 (fdB_of (k := 256) tX12_mendedf_16 0 46 rfl)
theorem dX12_mended_257 : decode cX12_mended 257 = .ok (.iload 5, 2) := dk_21 (fdB_of (k := 256) tX12_mendedf_16 1 21 rfl) (fdB_of (k := 256) tX12_mendedf_16 2 5 rfl)
theorem dX12_mended_259 : decode cX12_mended 259 = .ok (.ishr, 1) := dk_122 (fdB_of (k := 256) tX12_mendedf_16 3 122 rfl)
theorem dX12_mended_260 : decode cX12_mended 260 = .ok (.iconst 1, 1) := dk_4 (fdB_of (k := 256) tX12_mendedf_16 4 4 rfl)
theorem dX12_mended_261 : decode cX12_mended 261 = .ok (.if_icmp .eq 9, 3) := dk_159 (fdB_of (k := 256) tX12_mendedf_16 5 159 rfl) (fdB_of (k := 256) tX12_mendedf_16 6 0 rfl) (fdB_of (k := 256) tX12_mendedf_16 7 9 rfl) (by decide +kernel)
theorem dX12_mended_264 : decode cX12_mended 264 = .ok (.iinc 5 1, 3) := dk_132 (fdB_of (k := 256) tX12_mendedf_16 8 132 rfl) (fdB_of (k := 256) tX12_mendedf_16 9 5 rfl) (fdB_of (k := 256) tX12_mendedf_16 10 1 rfl) (by decide +kernel)
theorem dX12_mended_267 : decode cX12_mended 267 = .ok (.goto (-16), 3) := dk_167 (fdB_of (k := 256) tX12_mendedf_16 11 167 rfl) (fdB_of (k := 256) tX12_mendedf_16 12 255 rfl) (fdB_of (k := 256) tX12_mendedf_16 13 240 rfl) (by decide +kernel)
theorem dX12_mended_270 : decode cX12_mended 270 = .ok (.iload 5, 2) := dk_21 (fdB_of (k := 256) tX12_mendedf_16 14 21 rfl) (fdB_of (k := 256) tX12_mendedf_16 15 5 rfl)
theorem dX12_mended_272 : decode cX12_mended 272 = .ok (.ireturn, 1) := dk_172 (fdB_of (k := 272) tX12_mendedf_17 0 172 rfl)

theorem q0_54 : Cond.selects RX12 yX12_fewestAll yX12_fewestAll ∈ TT := tq0 54 rfl rfl
theorem q6_46 : Cond.methodLink RX12 230 yX12_fewestAll ∈ TT := tq6 46 rfl rfl
theorem q6_48 : Cond.instanceMethod yX12_fewestAll ∈ TT := tq6 48 rfl rfl
theorem q6_49 : Cond.code yX12_fewestAll cX12_fewestAll 7 (some .int) ∈ TT := tq6 49 rfl rfl
theorem ms_may {p : Program} {l : Launch} {e : Env} {R : Room} {s : State} {m : MethodId} {args : Array Value} {below : List Frame} {meth : Method} {c : Code} {D : gG} {A : Nat → Prop} {nL : Nat} {Q : State → Prop} {cells slots : Nat} {cc : ByteArray} {L : List (Nat × Value)} {pc : Nat} {stk : List Value} {β : Type} {r : β} {o : Nat → Nat} {cB cI cJ cZ : ClassId} {z : SM} (cx : gX p s m args meth c cc nL RX12 D (tyL cB cI cJ cZ) A) {i : Int32} {x : Int32} {kf : SM → Option β} (hf : ((aset 9 (mA z 32) i x).bind fun f => nm (mAs z 32 f) kf) = some r) (hd : decode cc pc = .ok (.iastore, 1)) (kk : ∀ y : SM, kf y = some r → gW p l e R s m args below meth c D A nL Q cells slots (wX12 o cB cI cJ cZ y) L (pc + 1) stk) : gW p l e R s m args below meth c D A nL Q cells slots (wX12 o cB cI cJ cZ z) L pc (.int x :: .int i :: .ref (o 17) :: stk) :=
  g_iast cx 17 1 (ws' := fun f => wX12 o cB cI cJ cZ (mAs z 32 f)) hf rfl rfl (fun _ => rfl) hd (fun _ hf => kk _ hf)
theorem lk_RX12_230 : vlk RX12 230 yX12_fewestAll cX12_fewestAll 7 (some .int) 1 := ⟨List.forall_mem_cons.mpr ⟨q6_46, List.forall_mem_cons.mpr ⟨q6_48, List.forall_mem_cons.mpr ⟨q0_54, List.forall_mem_cons.mpr ⟨q1_12, fun _ h => absurd h List.not_mem_nil⟩⟩⟩⟩, q6_49, by decide, by decide, by decide +kernel⟩
def F_X12_mended_b120 (x1 : Int32) (x2 : Int32) (x3 : Int32) (K41 : Int32 → SM → Option (Int32 × SM)) (K61 : Int32 → Int32 → SM → Option (Int32 × SM)) (v4 : Int32) (v5 : Int32) (zs_o : SM) (k1 : Int32) (k2 : Int32) (k3 : Int32) : Option (Int32 × SM) := (aset 9 (mA zs_o 32) k1 (k2 ||| k3)).bind fun f_1 => nm (mAs zs_o 32 f_1) fun s_o_2 => nm (v5 + 1) fun v5_3 => K61 v4 v5_3 s_o_2
def F_X12_mended_b61 (x1 : Int32) (x2 : Int32) (x3 : Int32) (K41 : Int32 → SM → Option (Int32 × SM)) : Nat → Int32 → Int32 → SM → Option (Int32 × SM)
  | 0, _, _, _ => none
  | n + 1, v4, v5, zs_o => (if (mI zs_o 13) ≤ v5 then nm (v4 + 1) fun v4_4 => K41 v4_4 zs_o else (aget 9 (mA zs_o 32) v4).bind fun e_5 => (aget 128 (mA zs_o 9) ((4 * v5) + 2)).bind fun e_6 => (aget 25 (mA zs_o 21) (1 + (3 * v4))).bind fun e_7 => (aget 128 (mA zs_o 9) ((4 * e_7) + 2)).bind fun e_8 => (if e_6 = e_8 then F_X12_mended_b120 x1 x2 x3 K41 (F_X12_mended_b61 x1 x2 x3 K41 n) v4 v5 zs_o v4 e_5 (1 <<< (v5 &&& 31)) else F_X12_mended_b120 x1 x2 x3 K41 (F_X12_mended_b61 x1 x2 x3 K41 n) v4 v5 zs_o v4 e_5 0))
def F_X12_mended_b227 (x1 : Int32) (x2 : Int32) (x3 : Int32) (K162 : Int32 → Int32 → SM → Option (Int32 × SM)) (K183 : Int32 → Int32 → Int32 → Int32 → Int32 → SM → Option (Int32 × SM)) (v4 : Int32) (v5 : Int32) (v6 : Int32) (v7 : Int32) (zs_o : SM) (k0 : Int32) : Option (Int32 × SM) := nm k0 fun v8_9 => nm (v7 + 1) fun v7_10 => K183 v4 v5 v6 v7_10 v8_9 zs_o
def F_X12_mended_b226 (x1 : Int32) (x2 : Int32) (x3 : Int32) (K162 : Int32 → Int32 → SM → Option (Int32 × SM)) (K183 : Int32 → Int32 → Int32 → Int32 → Int32 → SM → Option (Int32 × SM)) (v4 : Int32) (v5 : Int32) (v6 : Int32) (v7 : Int32) (zs_o : SM) : Option (Int32 × SM) := F_X12_mended_b227 x1 x2 x3 K162 K183 v4 v5 v6 v7 zs_o 0
def F_X12_mended_b183 (x1 : Int32) (x2 : Int32) (x3 : Int32) (K162 : Int32 → Int32 → SM → Option (Int32 × SM)) : Nat → Int32 → Int32 → Int32 → Int32 → Int32 → SM → Option (Int32 × SM)
  | 0, _, _, _, _, _, _ => none
  | n + 1, v4, v5, v6, v7, v8, zs_o => (if v8 = 0 then (aset 9 (mA zs_o 32) v5 (v6 &&& (1 <<< (v7 &&& 31)))).bind fun f_12 => nm (mAs zs_o 32 f_12) fun s_o_13 => (aget 9 (mA s_o_13 32) v5).bind fun e_14 => (if e_14 = 0 then F_X12_mended_b226 x1 x2 x3 K162 (F_X12_mended_b183 x1 x2 x3 K162 n) v4 v5 v6 v7 s_o_13 else (F_X12_fewestAll s_o_13 x1).bind fun q_15 => (if q_15.1 = v4 then F_X12_mended_b227 x1 x2 x3 K162 (F_X12_mended_b183 x1 x2 x3 K162 n) v4 v5 v6 v7 q_15.2 1 else F_X12_mended_b226 x1 x2 x3 K162 (F_X12_mended_b183 x1 x2 x3 K162 n) v4 v5 v6 v7 q_15.2)) else nm (v5 + 1) fun v5_11 => K162 v4 v5_11 zs_o)
def F_X12_mended_b251 (x1 : Int32) (x2 : Int32) (x3 : Int32) : Nat → Int32 → SM → Option (Int32 × SM)
  | 0, _, _ => none
  | n + 1, v5, zs_o => (aget 9 (mA zs_o 32) x3).bind fun e_16 => (if (e_16 >>> (v5 &&& 31)) = 1 then some (v5, zs_o) else nm (v5 + 1) fun v5_17 => (F_X12_mended_b251 x1 x2 x3 n) v5_17 zs_o)
def F_X12_mended_b162 (x1 : Int32) (x2 : Int32) (x3 : Int32) : Nat → Int32 → Int32 → SM → Option (Int32 × SM)
  | 0, _, _, _ => none
  | n + 1, v4, v5, zs_o => (if x3 < v5 then (if 0 ≤ x3 then nm 0 fun v5_18 => F_X12_mended_b251 x1 x2 x3 fu v5_18 zs_o else some (v4, zs_o)) else (aget 9 (mA zs_o 32) v5).bind fun e_19 => nm e_19 fun v6_20 => nm 0 fun v7_21 => nm 0 fun v8_22 => F_X12_mended_b183 x1 x2 x3 (F_X12_mended_b162 x1 x2 x3 n) fu v4 v5 v6_20 v7_21 v8_22 zs_o)
def F_X12_mended_b41 (x1 : Int32) (x2 : Int32) (x3 : Int32) : Nat → Int32 → SM → Option (Int32 × SM)
  | 0, _, _ => none
  | n + 1, v4, zs_o => (if (mI zs_o 25) ≤ v4 then (F_X12_fewestAll zs_o x1).bind fun q_23 => nm q_23.1 fun v4_24 => (if (mI q_23.2 25) = 0 then some ((-9), q_23.2) else (if v4_24 < 1000 then nm 0 fun v5_25 => F_X12_mended_b162 x1 x2 x3 fu v4_24 v5_25 q_23.2 else some ((-9), q_23.2))) else (aset 9 (mA zs_o 32) v4 0).bind fun f_26 => nm (mAs zs_o 32 f_26) fun s_o_27 => nm 0 fun v5_28 => F_X12_mended_b61 x1 x2 x3 (F_X12_mended_b41 x1 x2 x3 n) fu v4 v5_28 s_o_27)
def F_X12_mended_b29 (x1 : Int32) (x2 : Int32) (x3 : Int32) (zs_o : SM) : Option (Int32 × SM) := (F_X12_lays zs_o).bind fun q_29 => (F_X12_hears q_29 x2).bind fun q_30 => nm 0 fun v4_31 => F_X12_mended_b41 x1 x2 x3 fu v4_31 q_30
def F_X12_mended (s_o : SM) (x1 : Int32) (x2 : Int32) (x3 : Int32) : Option (Int32 × SM) := nm (mIs s_o 0 0) fun s_o_32 => (F_X12_isForm s_o_32 x1 x2).bind fun q_33 => (if q_33 = 0 then some ((-1), s_o_32) else (if x3 = (-1) then F_X12_mended_b29 x1 x2 x3 s_o_32 else (F_X12_isLine s_o_32 x3).bind fun q_34 => (if q_34 = 0 then some ((-1), s_o_32) else F_X12_mended_b29 x1 x2 x3 s_o_32)))

abbrev rm_X12_mended : Room := { frames := 4, cells := 0, slots := 0, locals := 102 }
set_option maxHeartbeats 4000000 in
set_option maxRecDepth 100000 in
theorem c_X12_mended (l : Launch) (D : gG) (cB cI cJ cZ : ClassId) (o : Nat → Nat) (s_o : SM) (x1 : Int32) (x2 : Int32) (x3 : Int32) (r : Int32 × SM) (hf : F_X12_mended s_o x1 x2 x3 = some r) : gM l D (tyL cB cI cJ cZ) yX12_mended cX12_mended 9 (some .int) rm_X12_mended [.ref (o 0), .int x1, .int x2, .int x3] (wX12 o cB cI cJ cZ s_o) (some (.int r.1)) (wX12 o cB cI cJ cZ r.2) := by
  refine met_of (by decide) (Nat.le_of_ble_eq_true rfl) ?_
  intro p e s m args below meth c A cx hr hA
  show gW p l e rm_X12_mended s m args below meth c D A 9 _ 0 0 _ [(0, .ref (o 0)), (1, .int x1), (2, .int x2), (3, .int x3)] 0 []
  have h120 : ∀ (K41 : Int32 → SM → Option (Int32 × SM)), (∀ (v4 : Int32) (zs_o : SM), K41 v4 zs_o = some r → gW p l e rm_X12_mended s m args below meth c D A 9 (MQ below (QM D (tyL cB cI cJ cZ) (some (.int r.1)) (wX12 o cB cI cJ cZ s_o) (wX12 o cB cI cJ cZ r.2) s.heap.size) args s 0 0 A) 0 0 (wX12 o cB cI cJ cZ zs_o) [(0, .ref (o 0)), (1, .int x1), (3, .int x3), (4, .int v4)] 41 []) → ∀ (K61 : Int32 → Int32 → SM → Option (Int32 × SM)), (∀ (v4 : Int32) (v5 : Int32) (zs_o : SM), K61 v4 v5 zs_o = some r → gW p l e rm_X12_mended s m args below meth c D A 9 (MQ below (QM D (tyL cB cI cJ cZ) (some (.int r.1)) (wX12 o cB cI cJ cZ s_o) (wX12 o cB cI cJ cZ r.2) s.heap.size) args s 0 0 A) 0 0 (wX12 o cB cI cJ cZ zs_o) [(0, .ref (o 0)), (1, .int x1), (3, .int x3), (4, .int v4), (5, .int v5)] 61 []) → ∀ (v4 : Int32) (v5 : Int32) (zs_o : SM) (k1 : Int32) (k2 : Int32) (k3 : Int32), F_X12_mended_b120 x1 x2 x3 K41 K61 v4 v5 zs_o k1 k2 k3 = some r → gW p l e rm_X12_mended s m args below meth c D A 9 (MQ below (QM D (tyL cB cI cJ cZ) (some (.int r.1)) (wX12 o cB cI cJ cZ s_o) (wX12 o cB cI cJ cZ r.2) s.heap.size) args s 0 0 A) 0 0 (wX12 o cB cI cJ cZ zs_o) [(0, .ref (o 0)), (1, .int x1), (3, .int x3), (4, .int v4), (5, .int v5)] 120 [.int k3, .int k2, .int k1, .ref (o 17)] := by
    intro K41 kh41 K61 kh61 v4 v5 zs_o k1 k2 k3 hf
    rw [F_X12_mended_b120] at hf
    refine g_ior cx dX12_mended_120 ?_
    refine ms_may cx hf dX12_mended_121 (fun s_o_2 hf => ?_)
    refine g_inc cx (L2 := fun v5_3 => [(5, .int v5_3), (0, .ref (o 0)), (1, .int x1), (3, .int x3), (4, .int v4)]) 4 hf dX12_mended_122 rfl (k_inc1 _) (Nat.le_of_ble_eq_true rfl) (fun _ => rfl) (fun v5_3 hf => ?_)
    refine g_goto (tgt := 61) cx dX12_mended_125 rfl ?_
    refine g_sub [1, 2, 3, 4, 0] rfl ?_
    exact kh61 _ _ _ hf
  have h61 : ∀ (K41 : Int32 → SM → Option (Int32 × SM)), (∀ (v4 : Int32) (zs_o : SM), K41 v4 zs_o = some r → gW p l e rm_X12_mended s m args below meth c D A 9 (MQ below (QM D (tyL cB cI cJ cZ) (some (.int r.1)) (wX12 o cB cI cJ cZ s_o) (wX12 o cB cI cJ cZ r.2) s.heap.size) args s 0 0 A) 0 0 (wX12 o cB cI cJ cZ zs_o) [(0, .ref (o 0)), (1, .int x1), (3, .int x3), (4, .int v4)] 41 []) → ∀ (n : Nat) (v4 : Int32) (v5 : Int32) (zs_o : SM), F_X12_mended_b61 x1 x2 x3 K41 n v4 v5 zs_o = some r → gW p l e rm_X12_mended s m args below meth c D A 9 (MQ below (QM D (tyL cB cI cJ cZ) (some (.int r.1)) (wX12 o cB cI cJ cZ s_o) (wX12 o cB cI cJ cZ r.2) s.heap.size) args s 0 0 A) 0 0 (wX12 o cB cI cJ cZ zs_o) [(0, .ref (o 0)), (1, .int x1), (3, .int x3), (4, .int v4), (5, .int v5)] 61 [] := by
    intro K41 kh41 n
    induction n with
    | zero => intro v4 v5 zs_o hf; rw [F_X12_mended_b61] at hf; cases hf
    | succ n ih =>
      intro v4 v5 zs_o hf
      rw [F_X12_mended_b61] at hf
      refine g_il cx 4 dX12_mended_61 rfl ?_
      refine g_aln cx 0 dX12_mended_63 rfl ?_
      refine mg_words cx dX12_mended_64 ?_
      refine g_ic_ge (tgt := 128) cx hf dX12_mended_67 rfl (fun hf => ?_) (fun hf => ?_)
      · refine g_inc cx (L2 := fun v4_4 => [(4, .int v4_4), (0, .ref (o 0)), (1, .int x1), (3, .int x3), (5, .int v5)]) 3 hf dX12_mended_128 rfl (k_inc1 _) (Nat.le_of_ble_eq_true rfl) (fun _ => rfl) (fun v4_4 hf => ?_)
        refine g_goto (tgt := 41) cx dX12_mended_131 rfl ?_
        refine g_sub [1, 2, 3, 0] rfl ?_
        exact kh41 _ _ hf
      · refine g_aln cx 0 dX12_mended_70 rfl ?_
        refine mg_may cx dX12_mended_71 ?_
        refine g_il cx 3 dX12_mended_74 rfl ?_
        refine g_dup2 cx dX12_mended_76 rfl rfl ?_
        refine ml_may cx hf dX12_mended_77 (fun e_5 hf => ?_)
        refine g_aln cx 0 dX12_mended_78 rfl ?_
        refine mg_word cx dX12_mended_79 ?_
        refine g_ic cx dX12_mended_82 k_ic4 ?_
        refine g_il cx 4 dX12_mended_83 rfl ?_
        refine g_imul cx dX12_mended_85 ?_
        refine g_ic cx dX12_mended_86 k_ic2 ?_
        refine g_iadd cx dX12_mended_87 ?_
        refine ml_word cx hf dX12_mended_88 (fun e_6 hf => ?_)
        refine g_aln cx 0 dX12_mended_89 rfl ?_
        refine mg_word cx dX12_mended_90 ?_
        refine g_ic cx dX12_mended_93 k_ic4 ?_
        refine g_aln cx 0 dX12_mended_94 rfl ?_
        refine mg_s cx dX12_mended_95 ?_
        refine g_ic cx dX12_mended_98 k_ic1 ?_
        refine g_ic cx dX12_mended_99 k_ic3 ?_
        refine g_il cx 3 dX12_mended_100 rfl ?_
        refine g_imul cx dX12_mended_102 ?_
        refine g_iadd cx dX12_mended_103 ?_
        refine ml_s cx hf dX12_mended_104 (fun e_7 hf => ?_)
        refine g_imul cx dX12_mended_105 ?_
        refine g_ic cx dX12_mended_106 k_ic2 ?_
        refine g_iadd cx dX12_mended_107 ?_
        refine ml_word cx hf dX12_mended_108 (fun e_8 hf => ?_)
        refine g_ic_ne (tgt := 119) cx hf dX12_mended_109 rfl (fun hf => ?_) (fun hf => ?_)
        · refine g_ic cx dX12_mended_119 k_ic0 ?_
          exact h120 _ kh41 _ ih _ _ _ _ _ _ hf
        · refine g_ic cx dX12_mended_112 k_ic1 ?_
          refine g_il cx 4 dX12_mended_113 rfl ?_
          refine g_ishl cx dX12_mended_115 ?_
          refine g_goto (tgt := 120) cx dX12_mended_116 rfl ?_
          exact h120 _ kh41 _ ih _ _ _ _ _ _ hf
  have h227 : ∀ (K162 : Int32 → Int32 → SM → Option (Int32 × SM)), (∀ (v4 : Int32) (v5 : Int32) (zs_o : SM), K162 v4 v5 zs_o = some r → gW p l e rm_X12_mended s m args below meth c D A 9 (MQ below (QM D (tyL cB cI cJ cZ) (some (.int r.1)) (wX12 o cB cI cJ cZ s_o) (wX12 o cB cI cJ cZ r.2) s.heap.size) args s 0 0 A) 0 0 (wX12 o cB cI cJ cZ zs_o) [(0, .ref (o 0)), (1, .int x1), (3, .int x3), (4, .int v4), (5, .int v5)] 162 []) → ∀ (K183 : Int32 → Int32 → Int32 → Int32 → Int32 → SM → Option (Int32 × SM)), (∀ (v4 : Int32) (v5 : Int32) (v6 : Int32) (v7 : Int32) (v8 : Int32) (zs_o : SM), K183 v4 v5 v6 v7 v8 zs_o = some r → gW p l e rm_X12_mended s m args below meth c D A 9 (MQ below (QM D (tyL cB cI cJ cZ) (some (.int r.1)) (wX12 o cB cI cJ cZ s_o) (wX12 o cB cI cJ cZ r.2) s.heap.size) args s 0 0 A) 0 0 (wX12 o cB cI cJ cZ zs_o) [(0, .ref (o 0)), (1, .int x1), (3, .int x3), (4, .int v4), (5, .int v5), (6, .int v6), (7, .int v7), (8, .int v8)] 183 []) → ∀ (v4 : Int32) (v5 : Int32) (v6 : Int32) (v7 : Int32) (zs_o : SM) (k0 : Int32), F_X12_mended_b227 x1 x2 x3 K162 K183 v4 v5 v6 v7 zs_o k0 = some r → gW p l e rm_X12_mended s m args below meth c D A 9 (MQ below (QM D (tyL cB cI cJ cZ) (some (.int r.1)) (wX12 o cB cI cJ cZ s_o) (wX12 o cB cI cJ cZ r.2) s.heap.size) args s 0 0 A) 0 0 (wX12 o cB cI cJ cZ zs_o) [(0, .ref (o 0)), (1, .int x1), (3, .int x3), (4, .int v4), (5, .int v5), (6, .int v6), (7, .int v7)] 227 [.int k0] := by
    intro K162 kh162 K183 kh183 v4 v5 v6 v7 zs_o k0 hf
    rw [F_X12_mended_b227] at hf
    refine g_is cx (L2 := fun v8_9 => [(8, .int v8_9), (0, .ref (o 0)), (1, .int x1), (3, .int x3), (4, .int v4), (5, .int v5), (6, .int v6), (7, .int v7)]) hf dX12_mended_227 (Nat.le_of_ble_eq_true rfl) (fun _ => rfl) (fun v8_9 hf => ?_)
    refine g_inc cx (L2 := fun v7_10 => [(7, .int v7_10), (8, .int v8_9), (0, .ref (o 0)), (1, .int x1), (3, .int x3), (4, .int v4), (5, .int v5), (6, .int v6)]) 7 hf dX12_mended_229 rfl (k_inc1 _) (Nat.le_of_ble_eq_true rfl) (fun _ => rfl) (fun v7_10 hf => ?_)
    refine g_goto (tgt := 183) cx dX12_mended_232 rfl ?_
    refine g_sub [2, 3, 4, 5, 6, 7, 0, 1] rfl ?_
    exact kh183 _ _ _ _ _ _ hf
  have h226 : ∀ (K162 : Int32 → Int32 → SM → Option (Int32 × SM)), (∀ (v4 : Int32) (v5 : Int32) (zs_o : SM), K162 v4 v5 zs_o = some r → gW p l e rm_X12_mended s m args below meth c D A 9 (MQ below (QM D (tyL cB cI cJ cZ) (some (.int r.1)) (wX12 o cB cI cJ cZ s_o) (wX12 o cB cI cJ cZ r.2) s.heap.size) args s 0 0 A) 0 0 (wX12 o cB cI cJ cZ zs_o) [(0, .ref (o 0)), (1, .int x1), (3, .int x3), (4, .int v4), (5, .int v5)] 162 []) → ∀ (K183 : Int32 → Int32 → Int32 → Int32 → Int32 → SM → Option (Int32 × SM)), (∀ (v4 : Int32) (v5 : Int32) (v6 : Int32) (v7 : Int32) (v8 : Int32) (zs_o : SM), K183 v4 v5 v6 v7 v8 zs_o = some r → gW p l e rm_X12_mended s m args below meth c D A 9 (MQ below (QM D (tyL cB cI cJ cZ) (some (.int r.1)) (wX12 o cB cI cJ cZ s_o) (wX12 o cB cI cJ cZ r.2) s.heap.size) args s 0 0 A) 0 0 (wX12 o cB cI cJ cZ zs_o) [(0, .ref (o 0)), (1, .int x1), (3, .int x3), (4, .int v4), (5, .int v5), (6, .int v6), (7, .int v7), (8, .int v8)] 183 []) → ∀ (v4 : Int32) (v5 : Int32) (v6 : Int32) (v7 : Int32) (zs_o : SM), F_X12_mended_b226 x1 x2 x3 K162 K183 v4 v5 v6 v7 zs_o = some r → gW p l e rm_X12_mended s m args below meth c D A 9 (MQ below (QM D (tyL cB cI cJ cZ) (some (.int r.1)) (wX12 o cB cI cJ cZ s_o) (wX12 o cB cI cJ cZ r.2) s.heap.size) args s 0 0 A) 0 0 (wX12 o cB cI cJ cZ zs_o) [(0, .ref (o 0)), (1, .int x1), (3, .int x3), (4, .int v4), (5, .int v5), (6, .int v6), (7, .int v7)] 226 [] := by
    intro K162 kh162 K183 kh183 v4 v5 v6 v7 zs_o hf
    rw [F_X12_mended_b226] at hf
    refine g_ic cx dX12_mended_226 k_ic0 ?_
    exact h227 _ kh162 _ kh183 _ _ _ _ _ _ hf
  have h183 : ∀ (K162 : Int32 → Int32 → SM → Option (Int32 × SM)), (∀ (v4 : Int32) (v5 : Int32) (zs_o : SM), K162 v4 v5 zs_o = some r → gW p l e rm_X12_mended s m args below meth c D A 9 (MQ below (QM D (tyL cB cI cJ cZ) (some (.int r.1)) (wX12 o cB cI cJ cZ s_o) (wX12 o cB cI cJ cZ r.2) s.heap.size) args s 0 0 A) 0 0 (wX12 o cB cI cJ cZ zs_o) [(0, .ref (o 0)), (1, .int x1), (3, .int x3), (4, .int v4), (5, .int v5)] 162 []) → ∀ (n : Nat) (v4 : Int32) (v5 : Int32) (v6 : Int32) (v7 : Int32) (v8 : Int32) (zs_o : SM), F_X12_mended_b183 x1 x2 x3 K162 n v4 v5 v6 v7 v8 zs_o = some r → gW p l e rm_X12_mended s m args below meth c D A 9 (MQ below (QM D (tyL cB cI cJ cZ) (some (.int r.1)) (wX12 o cB cI cJ cZ s_o) (wX12 o cB cI cJ cZ r.2) s.heap.size) args s 0 0 A) 0 0 (wX12 o cB cI cJ cZ zs_o) [(0, .ref (o 0)), (1, .int x1), (3, .int x3), (4, .int v4), (5, .int v5), (6, .int v6), (7, .int v7), (8, .int v8)] 183 [] := by
    intro K162 kh162 n
    induction n with
    | zero => intro v4 v5 v6 v7 v8 zs_o hf; rw [F_X12_mended_b183] at hf; cases hf
    | succ n ih =>
      intro v4 v5 v6 v7 v8 zs_o hf
      rw [F_X12_mended_b183] at hf
      refine g_il cx 7 dX12_mended_183 rfl ?_
      refine g_if_ne (tgt := 235) cx hf dX12_mended_185 rfl (fun hf => ?_) (fun hf => ?_)
      · refine g_inc cx (L2 := fun v5_11 => [(5, .int v5_11), (0, .ref (o 0)), (1, .int x1), (3, .int x3), (4, .int v4), (6, .int v6), (7, .int v7), (8, .int v8)]) 4 hf dX12_mended_235 rfl (k_inc1 _) (Nat.le_of_ble_eq_true rfl) (fun _ => rfl) (fun v5_11 hf => ?_)
        refine g_goto (tgt := 162) cx dX12_mended_238 rfl ?_
        refine g_sub [1, 2, 3, 4, 0] rfl ?_
        exact kh162 _ _ _ hf
      · refine g_aln cx 0 dX12_mended_188 rfl ?_
        refine mg_may cx dX12_mended_189 ?_
        refine g_il cx 4 dX12_mended_192 rfl ?_
        refine g_il cx 5 dX12_mended_194 rfl ?_
        refine g_ic cx dX12_mended_196 k_ic1 ?_
        refine g_il cx 6 dX12_mended_197 rfl ?_
        refine g_ishl cx dX12_mended_199 ?_
        refine g_iand cx dX12_mended_200 ?_
        refine ms_may cx hf dX12_mended_201 (fun s_o_13 hf => ?_)
        refine g_aln cx 0 dX12_mended_202 rfl ?_
        refine mg_may cx dX12_mended_203 ?_
        refine g_il cx 4 dX12_mended_206 rfl ?_
        refine ml_may cx hf dX12_mended_208 (fun e_14 hf => ?_)
        refine g_if_eq (tgt := 226) cx hf dX12_mended_209 rfl (fun hf => ?_) (fun hf => ?_)
        · refine g_sub [0, 1, 2, 3, 4, 5, 6] rfl ?_
          exact h226 _ kh162 _ ih _ _ _ _ _ hf
        · refine g_aln cx 0 dX12_mended_212 rfl ?_
          refine g_iln cx 1 dX12_mended_213 rfl ?_
          refine ob hf (fun q_15 hq_15 hf => ?_)
          refine g_callVFi cx lk_RX12_230 (c_X12_fewestAll l D cB cI cJ cZ o s_o_13 x1 q_15 hq_15) rfl (ci := 10) (q1 := 0) rfl rfl rfl (Nat.le_of_ble_eq_true rfl) ⟨rfl, rfl, Nat.le_of_ble_eq_true rfl, Nat.le_of_ble_eq_true rfl⟩ dX12_mended_214 ?_
          refine g_il cx 3 dX12_mended_217 rfl ?_
          refine g_ic_ne (tgt := 226) cx hf dX12_mended_219 rfl (fun hf => ?_) (fun hf => ?_)
          · refine g_sub [0, 1, 2, 3, 4, 5, 6] rfl ?_
            exact h226 _ kh162 _ ih _ _ _ _ _ hf
          · refine g_ic cx dX12_mended_222 k_ic1 ?_
            refine g_goto (tgt := 227) cx dX12_mended_223 rfl ?_
            refine g_sub [0, 1, 2, 3, 4, 5, 6] rfl ?_
            exact h227 _ kh162 _ ih _ _ _ _ _ _ hf
  have h251 : ∀ (n : Nat) (v5 : Int32) (zs_o : SM), F_X12_mended_b251 x1 x2 x3 n v5 zs_o = some r → gW p l e rm_X12_mended s m args below meth c D A 9 (MQ below (QM D (tyL cB cI cJ cZ) (some (.int r.1)) (wX12 o cB cI cJ cZ s_o) (wX12 o cB cI cJ cZ r.2) s.heap.size) args s 0 0 A) 0 0 (wX12 o cB cI cJ cZ zs_o) [(0, .ref (o 0)), (3, .int x3), (5, .int v5)] 251 [] := by
    intro n
    induction n with
    | zero => intro v5 zs_o hf; rw [F_X12_mended_b251] at hf; cases hf
    | succ n ih =>
      intro v5 zs_o hf
      rw [F_X12_mended_b251] at hf
      refine g_aln cx 0 dX12_mended_251 rfl ?_
      refine mg_may cx dX12_mended_252 ?_
      refine g_iln cx 1 dX12_mended_255 rfl ?_
      refine ml_may cx hf dX12_mended_256 (fun e_16 hf => ?_)
      refine g_il cx 2 dX12_mended_257 rfl ?_
      refine g_ishr cx dX12_mended_259 ?_
      refine g_ic cx dX12_mended_260 k_ic1 ?_
      refine g_ic_eq (tgt := 270) cx hf dX12_mended_261 rfl (fun hf => ?_) (fun hf => ?_)
      · refine g_il cx 2 dX12_mended_270 rfl ?_
        exact g_iret (ovf := fun (r : Int32 × SM) => (some (.int r.1))) (wf := fun (r : Int32 × SM) => (wX12 o cB cI cJ cZ r.2)) cx hA hr hf rfl rfl dX12_mended_272
      · refine g_inc cx (L2 := fun v5_17 => [(5, .int v5_17), (0, .ref (o 0)), (3, .int x3)]) 2 hf dX12_mended_264 rfl (k_inc1 _) (Nat.le_of_ble_eq_true rfl) (fun _ => rfl) (fun v5_17 hf => ?_)
        refine g_goto (tgt := 251) cx dX12_mended_267 rfl ?_
        refine g_sub [1, 2, 0] rfl ?_
        exact ih _ _ hf
  have h162 : ∀ (n : Nat) (v4 : Int32) (v5 : Int32) (zs_o : SM), F_X12_mended_b162 x1 x2 x3 n v4 v5 zs_o = some r → gW p l e rm_X12_mended s m args below meth c D A 9 (MQ below (QM D (tyL cB cI cJ cZ) (some (.int r.1)) (wX12 o cB cI cJ cZ s_o) (wX12 o cB cI cJ cZ r.2) s.heap.size) args s 0 0 A) 0 0 (wX12 o cB cI cJ cZ zs_o) [(0, .ref (o 0)), (1, .int x1), (3, .int x3), (4, .int v4), (5, .int v5)] 162 [] := by
    intro n
    induction n with
    | zero => intro v4 v5 zs_o hf; rw [F_X12_mended_b162] at hf; cases hf
    | succ n ih =>
      intro v4 v5 zs_o hf
      rw [F_X12_mended_b162] at hf
      refine g_il cx 4 dX12_mended_162 rfl ?_
      refine g_iln cx 2 dX12_mended_164 rfl ?_
      refine g_ic_gt (tgt := 241) cx hf dX12_mended_165 rfl (fun hf => ?_) (fun hf => ?_)
      · refine g_iln cx 2 dX12_mended_241 rfl ?_
        refine g_if_ge (tgt := 248) cx hf dX12_mended_242 rfl (fun hf => ?_) (fun hf => ?_)
        · refine g_ic cx dX12_mended_248 k_ic0 ?_
          refine g_is cx (L2 := fun v5_18 => [(5, .int v5_18), (0, .ref (o 0)), (1, .int x1), (3, .int x3), (4, .int v4)]) hf dX12_mended_249 (Nat.le_of_ble_eq_true rfl) (fun _ => rfl) (fun v5_18 hf => ?_)
          refine g_sub [1, 3, 0] rfl ?_
          exact h251 fu _ _ hf
        · refine g_il cx 3 dX12_mended_245 rfl ?_
          exact g_iret (ovf := fun (r : Int32 × SM) => (some (.int r.1))) (wf := fun (r : Int32 × SM) => (wX12 o cB cI cJ cZ r.2)) cx hA hr hf rfl rfl dX12_mended_247
      · refine g_aln cx 0 dX12_mended_168 rfl ?_
        refine mg_may cx dX12_mended_169 ?_
        refine g_il cx 4 dX12_mended_172 rfl ?_
        refine ml_may cx hf dX12_mended_174 (fun e_19 hf => ?_)
        refine g_is cx (L2 := fun v6_20 => [(6, .int v6_20), (0, .ref (o 0)), (1, .int x1), (3, .int x3), (4, .int v4), (5, .int v5)]) hf dX12_mended_175 (Nat.le_of_ble_eq_true rfl) (fun _ => rfl) (fun v6_20 hf => ?_)
        refine g_ic cx dX12_mended_177 k_ic0 ?_
        refine g_is cx (L2 := fun v7_21 => [(7, .int v7_21), (6, .int v6_20), (0, .ref (o 0)), (1, .int x1), (3, .int x3), (4, .int v4), (5, .int v5)]) hf dX12_mended_178 (Nat.le_of_ble_eq_true rfl) (fun _ => rfl) (fun v7_21 hf => ?_)
        refine g_ic cx dX12_mended_180 k_ic0 ?_
        refine g_is cx (L2 := fun v8_22 => [(8, .int v8_22), (7, .int v7_21), (6, .int v6_20), (0, .ref (o 0)), (1, .int x1), (3, .int x3), (4, .int v4), (5, .int v5)]) hf dX12_mended_181 (Nat.le_of_ble_eq_true rfl) (fun _ => rfl) (fun v8_22 hf => ?_)
        refine g_sub [3, 4, 5, 6, 7, 2, 1, 0] rfl ?_
        exact h183 _ ih fu _ _ _ _ _ _ hf
  have h41 : ∀ (n : Nat) (v4 : Int32) (zs_o : SM), F_X12_mended_b41 x1 x2 x3 n v4 zs_o = some r → gW p l e rm_X12_mended s m args below meth c D A 9 (MQ below (QM D (tyL cB cI cJ cZ) (some (.int r.1)) (wX12 o cB cI cJ cZ s_o) (wX12 o cB cI cJ cZ r.2) s.heap.size) args s 0 0 A) 0 0 (wX12 o cB cI cJ cZ zs_o) [(0, .ref (o 0)), (1, .int x1), (3, .int x3), (4, .int v4)] 41 [] := by
    intro n
    induction n with
    | zero => intro v4 zs_o hf; rw [F_X12_mended_b41] at hf; cases hf
    | succ n ih =>
      intro v4 zs_o hf
      rw [F_X12_mended_b41] at hf
      refine g_il cx 3 dX12_mended_41 rfl ?_
      refine g_aln cx 0 dX12_mended_43 rfl ?_
      refine mg_many cx dX12_mended_44 ?_
      refine g_ic_ge (tgt := 134) cx hf dX12_mended_47 rfl (fun hf => ?_) (fun hf => ?_)
      · refine g_aln cx 0 dX12_mended_134 rfl ?_
        refine g_iln cx 1 dX12_mended_135 rfl ?_
        refine ob hf (fun q_23 hq_23 hf => ?_)
        refine g_callVFi cx lk_RX12_230 (c_X12_fewestAll l D cB cI cJ cZ o zs_o x1 q_23 hq_23) rfl (ci := 10) (q1 := 0) rfl rfl rfl (Nat.le_of_ble_eq_true rfl) ⟨rfl, rfl, Nat.le_of_ble_eq_true rfl, Nat.le_of_ble_eq_true rfl⟩ dX12_mended_136 ?_
        refine g_is cx (L2 := fun v4_24 => [(4, .int v4_24), (0, .ref (o 0)), (1, .int x1), (3, .int x3)]) hf dX12_mended_139 (Nat.le_of_ble_eq_true rfl) (fun _ => rfl) (fun v4_24 hf => ?_)
        refine g_aln cx 1 dX12_mended_141 rfl ?_
        refine mg_many cx dX12_mended_142 ?_
        refine g_if_eq (tgt := 156) cx hf dX12_mended_145 rfl (fun hf => ?_) (fun hf => ?_)
        · refine g_bp cx dX12_mended_156 k_bpm9 ?_
          exact g_iret (ovf := fun (r : Int32 × SM) => (some (.int r.1))) (wf := fun (r : Int32 × SM) => (wX12 o cB cI cJ cZ r.2)) cx hA hr hf rfl rfl dX12_mended_158
        · refine g_il cx 0 dX12_mended_148 rfl ?_
          refine g_sp cx dX12_mended_150 k_sp1000 ?_
          refine g_ic_lt (tgt := 159) cx hf dX12_mended_153 rfl (fun hf => ?_) (fun hf => ?_)
          · refine g_ic cx dX12_mended_159 k_ic0 ?_
            refine g_is cx (L2 := fun v5_25 => [(5, .int v5_25), (4, .int v4_24), (0, .ref (o 0)), (1, .int x1), (3, .int x3)]) hf dX12_mended_160 (Nat.le_of_ble_eq_true rfl) (fun _ => rfl) (fun v5_25 hf => ?_)
            refine g_sub [2, 3, 4, 1, 0] rfl ?_
            exact h162 fu _ _ _ hf
          · refine g_bp cx dX12_mended_156 k_bpm9 ?_
            exact g_iret (ovf := fun (r : Int32 × SM) => (some (.int r.1))) (wf := fun (r : Int32 × SM) => (wX12 o cB cI cJ cZ r.2)) cx hA hr hf rfl rfl dX12_mended_158
      · refine g_aln cx 0 dX12_mended_50 rfl ?_
        refine mg_may cx dX12_mended_51 ?_
        refine g_il cx 3 dX12_mended_54 rfl ?_
        refine g_ic cx dX12_mended_56 k_ic0 ?_
        refine ms_may cx hf dX12_mended_57 (fun s_o_27 hf => ?_)
        refine g_ic cx dX12_mended_58 k_ic0 ?_
        refine g_is cx (L2 := fun v5_28 => [(5, .int v5_28), (0, .ref (o 0)), (1, .int x1), (3, .int x3), (4, .int v4)]) hf dX12_mended_59 (Nat.le_of_ble_eq_true rfl) (fun _ => rfl) (fun v5_28 hf => ?_)
        refine g_sub [1, 2, 3, 4, 0] rfl ?_
        exact h61 _ ih fu _ _ _ hf
  have h29 : ∀ (zs_o : SM), F_X12_mended_b29 x1 x2 x3 zs_o = some r → gW p l e rm_X12_mended s m args below meth c D A 9 (MQ below (QM D (tyL cB cI cJ cZ) (some (.int r.1)) (wX12 o cB cI cJ cZ s_o) (wX12 o cB cI cJ cZ r.2) s.heap.size) args s 0 0 A) 0 0 (wX12 o cB cI cJ cZ zs_o) [(0, .ref (o 0)), (1, .int x1), (2, .int x2), (3, .int x3)] 29 [] := by
    intro zs_o hf
    rw [F_X12_mended_b29] at hf
    refine g_aln cx 0 dX12_mended_29 rfl ?_
    refine ob hf (fun q_29 hq_29 hf => ?_)
    refine g_callVFv cx lk_RX12_198 (c_X12_lays l D cB cI cJ cZ o zs_o q_29 hq_29) rfl (ci := 10) (q1 := 0) rfl rfl rfl (Nat.le_of_ble_eq_true rfl) ⟨rfl, rfl, Nat.le_of_ble_eq_true rfl, Nat.le_of_ble_eq_true rfl⟩ dX12_mended_30 ?_
    refine g_aln cx 0 dX12_mended_33 rfl ?_
    refine g_iln cx 2 dX12_mended_34 rfl ?_
    refine ob hf (fun q_30 hq_30 hf => ?_)
    refine g_callVFv cx lk_RX12_201 (c_X12_hears l D cB cI cJ cZ o q_29 x2 q_30 hq_30) rfl (ci := 10) (q1 := 0) rfl rfl rfl (Nat.le_of_ble_eq_true rfl) ⟨rfl, rfl, Nat.le_of_ble_eq_true rfl, Nat.le_of_ble_eq_true rfl⟩ dX12_mended_35 ?_
    refine g_ic cx dX12_mended_38 k_ic0 ?_
    refine g_is cx (L2 := fun v4_31 => [(4, .int v4_31), (0, .ref (o 0)), (1, .int x1), (2, .int x2), (3, .int x3)]) hf dX12_mended_39 (Nat.le_of_ble_eq_true rfl) (fun _ => rfl) (fun v4_31 hf => ?_)
    refine g_sub [1, 2, 4, 0] rfl ?_
    exact h41 fu _ _ hf
  rw [F_X12_mended] at hf
  refine g_aln cx 0 dX12_mended_0 rfl ?_
  refine g_ic cx dX12_mended_1 k_ic0 ?_
  refine mp_thrown cx hf dX12_mended_2 (fun s_o_32 hf => ?_)
  refine g_aln cx 0 dX12_mended_5 rfl ?_
  refine g_iln cx 1 dX12_mended_6 rfl ?_
  refine g_iln cx 2 dX12_mended_7 rfl ?_
  refine ob hf (fun q_33 hq_33 hf => ?_)
  refine g_callVFi cx lk_RX12_178 (c_X12_isForm l D cB cI cJ cZ o s_o_32 x1 x2 q_33 hq_33) rfl (ci := 10) (q1 := 0) rfl rfl rfl (Nat.le_of_ble_eq_true rfl) ⟨rfl, rfl, Nat.le_of_ble_eq_true rfl, Nat.le_of_ble_eq_true rfl⟩ dX12_mended_8 ?_
  refine g_if_eq (tgt := 27) cx hf dX12_mended_11 rfl (fun hf => ?_) (fun hf => ?_)
  · refine g_ic cx dX12_mended_27 k_icm1 ?_
    exact g_iret (ovf := fun (r : Int32 × SM) => (some (.int r.1))) (wf := fun (r : Int32 × SM) => (wX12 o cB cI cJ cZ r.2)) cx hA hr hf rfl rfl dX12_mended_28
  · refine g_iln cx 3 dX12_mended_14 rfl ?_
    refine g_ic cx dX12_mended_15 k_icm1 ?_
    refine g_ic_eq (tgt := 29) cx hf dX12_mended_16 rfl (fun hf => ?_) (fun hf => ?_)
    · exact h29 _ hf
    · refine g_aln cx 0 dX12_mended_19 rfl ?_
      refine g_iln cx 3 dX12_mended_20 rfl ?_
      refine ob hf (fun q_34 hq_34 hf => ?_)
      refine g_callVFi cx lk_RX12_185 (c_X12_isLine l D cB cI cJ cZ o s_o_32 x3 q_34 hq_34) rfl (ci := 10) (q1 := 0) rfl rfl rfl (Nat.le_of_ble_eq_true rfl) ⟨rfl, rfl, Nat.le_of_ble_eq_true rfl, Nat.le_of_ble_eq_true rfl⟩ dX12_mended_21 ?_
      refine g_if_ne (tgt := 29) cx hf dX12_mended_24 rfl (fun hf => ?_) (fun hf => ?_)
      · exact h29 _ hf
      · refine g_ic cx dX12_mended_27 k_icm1 ?_
        exact g_iret (ovf := fun (r : Int32 × SM) => (some (.int r.1))) (wf := fun (r : Int32 × SM) => (wX12 o cB cI cJ cZ r.2)) cx hA hr hf rfl rfl dX12_mended_28
theorem dX12_isInRow_0 : decode cX12_isInRow 0 = .ok (.iconst 0, 1) := by decide +kernel
theorem dX12_isInRow_1 : decode cX12_isInRow 1 = .ok (.istore_n 3, 1) := by decide +kernel
theorem dX12_isInRow_2 : decode cX12_isInRow 2 = .ok (.iconst 0, 1) := by decide +kernel
theorem dX12_isInRow_3 : decode cX12_isInRow 3 = .ok (.istore 4, 2) := by decide +kernel
theorem dX12_isInRow_5 : decode cX12_isInRow 5 = .ok (.iload 4, 2) := by decide +kernel
theorem dX12_isInRow_7 : decode cX12_isInRow 7 = .ok (.iload_n 2, 1) := by decide +kernel
theorem dX12_isInRow_8 : decode cX12_isInRow 8 = .ok (.if_icmp .ge 28, 3) := by decide +kernel
theorem dX12_isInRow_11 : decode cX12_isInRow 11 = .ok (.iload_n 3, 1) := by decide +kernel
theorem dX12_isInRow_12 : decode cX12_isInRow 12 = .ok (.aload_n 0, 1) := by decide +kernel
theorem dX12_isInRow_13 : decode cX12_isInRow 13 = .ok (.getfield 62, 3) := by decide +kernel
theorem dX12_isInRow_16 : decode cX12_isInRow 16 = .ok (.iload 4, 2) := by decide +kernel
theorem dX12_isInRow_18 : decode cX12_isInRow 18 = .ok (.iaload, 1) := by decide +kernel
theorem dX12_isInRow_19 : decode cX12_isInRow 19 = .ok (.iload_n 1, 1) := by decide +kernel
theorem dX12_isInRow_20 : decode cX12_isInRow 20 = .ok (.if_icmp .ne 7, 3) := by decide +kernel
theorem dX12_isInRow_23 : decode cX12_isInRow 23 = .ok (.iconst 1, 1) := by decide +kernel
theorem dX12_isInRow_24 : decode cX12_isInRow 24 = .ok (.goto 4, 3) := by decide +kernel
theorem dX12_isInRow_27 : decode cX12_isInRow 27 = .ok (.iconst 0, 1) := by decide +kernel
theorem dX12_isInRow_28 : decode cX12_isInRow 28 = .ok (.ior, 1) := by decide +kernel
theorem dX12_isInRow_29 : decode cX12_isInRow 29 = .ok (.istore_n 3, 1) := by decide +kernel
theorem dX12_isInRow_30 : decode cX12_isInRow 30 = .ok (.iinc 4 1, 3) := by decide +kernel
theorem dX12_isInRow_33 : decode cX12_isInRow 33 = .ok (.goto (-28), 3) := by decide +kernel
theorem dX12_isInRow_36 : decode cX12_isInRow 36 = .ok (.iload_n 3, 1) := by decide +kernel
theorem dX12_isInRow_37 : decode cX12_isInRow 37 = .ok (.ireturn, 1) := by decide +kernel
theorem q5_16 : Cond.fieldLink RX12 62 "RhymeLawModel" "row" "[I" ∈ TT := tq5 16 rfl rfl
theorem fg_RX12_62 {p : Program} {l : Launch} {e : Env} {R : Room} {s : State} {m : MethodId} {args : Array Value} {below : List Frame} {meth : Method} {c : Code} {D : gG} {tys : List (ClassId × FieldType)} {A : Nat → Prop} {nL : Nat} {Q : State → Prop} {cells slots : Nat} {cc : ByteArray} {ws : va_W} {L : List (Nat × Value)} {pc : Nat} {stk : List Value} (cx : gX p s m args meth c cc nL RX12 D tys A) {a : Nat} {fs : List Value} {v : Value} (q0 : Nat) (he : ws[q0]? = some (a, .inr (10, fs))) (hv : fs[33]? = some v) (hd : decode cc pc = .ok (.getfield 62, 3)) (kk : gW p l e R s m args below meth c D A nL Q cells slots ws L (pc + 3) (v :: stk)) : gW p l e R s m args below meth c D A nL Q cells slots ws L pc (.ref a :: stk) :=
  g_get cx (C := RX12) (T := TX12) (N := 38) inT12 rfl 33 (Nat.le_of_ble_eq_true rfl) q5_16 rfl q0 he hv hd kk
theorem mg_row {p : Program} {l : Launch} {e : Env} {R : Room} {s : State} {m : MethodId} {args : Array Value} {below : List Frame} {meth : Method} {c : Code} {D : gG} {A : Nat → Prop} {nL : Nat} {Q : State → Prop} {cells slots : Nat} {cc : ByteArray} {L : List (Nat × Value)} {pc : Nat} {stk : List Value} {o : Nat → Nat} {cB cI cJ cZ : ClassId} {z : SM} (cx : gX p s m args meth c cc nL RX12 D (tyL cB cI cJ cZ) A) (hd : decode cc pc = .ok (.getfield 62, 3)) (kk : gW p l e R s m args below meth c D A nL Q cells slots (wX12 o cB cI cJ cZ z) L (pc + 3) (.ref (o 18) :: stk)) : gW p l e R s m args below meth c D A nL Q cells slots (wX12 o cB cI cJ cZ z) L pc (.ref (o 0) :: stk) :=
  fg_RX12_62 cx 0 rfl rfl hd kk
theorem ml_row {p : Program} {l : Launch} {e : Env} {R : Room} {s : State} {m : MethodId} {args : Array Value} {below : List Frame} {meth : Method} {c : Code} {D : gG} {A : Nat → Prop} {nL : Nat} {Q : State → Prop} {cells slots : Nat} {cc : ByteArray} {L : List (Nat × Value)} {pc : Nat} {stk : List Value} {β : Type} {r : β} {o : Nat → Nat} {cB cI cJ cZ : ClassId} {z : SM} (cx : gX p s m args meth c cc nL RX12 D (tyL cB cI cJ cZ) A) {i : Int32} {kf : Int32 → Option β} (hf : (aget 6 (mA z 33) i).bind kf = some r) (hd : decode cc pc = .ok (.iaload, 1)) (kk : ∀ v : Int32, kf v = some r → gW p l e R s m args below meth c D A nL Q cells slots (wX12 o cB cI cJ cZ z) L (pc + 1) (.int v :: stk)) : gW p l e R s m args below meth c D A nL Q cells slots (wX12 o cB cI cJ cZ z) L pc (.int i :: .ref (o 18) :: stk) :=
  g_iald cx 18 1 hf rfl rfl hd kk
def F_X12_isInRow_b28 (s_o : SM) (x1 : Int32) (x2 : Int32) (K5 : Int32 → Int32 → Option (Int32)) (v4 : Int32) (k0 : Int32) (k1 : Int32) : Option (Int32) := nm (k0 ||| k1) fun v3_1 => nm (v4 + 1) fun v4_2 => K5 v3_1 v4_2
def F_X12_isInRow_b5 (s_o : SM) (x1 : Int32) (x2 : Int32) : Nat → Int32 → Int32 → Option (Int32)
  | 0, _, _ => none
  | n + 1, v3, v4 => (if x2 ≤ v4 then (zb v3).bind fun z_3 => some (v3) else (aget 6 (mA s_o 33) v4).bind fun e_4 => (if e_4 = x1 then F_X12_isInRow_b28 s_o x1 x2 (F_X12_isInRow_b5 s_o x1 x2 n) v4 v3 1 else F_X12_isInRow_b28 s_o x1 x2 (F_X12_isInRow_b5 s_o x1 x2 n) v4 v3 0))
def F_X12_isInRow (s_o : SM) (x1 : Int32) (x2 : Int32) : Option (Int32) := nm 0 fun v3_5 => nm 0 fun v4_6 => F_X12_isInRow_b5 s_o x1 x2 fu v3_5 v4_6

abbrev rm_X12_isInRow : Room := { frames := 0, cells := 0, slots := 0, locals := 0 }
set_option maxHeartbeats 4000000 in
set_option maxRecDepth 100000 in
theorem c_X12_isInRow (l : Launch) (D : gG) (cB cI cJ cZ : ClassId) (o : Nat → Nat) (s_o : SM) (x1 : Int32) (x2 : Int32) (r : Int32) (hf : F_X12_isInRow s_o x1 x2 = some r) : gM l D (tyL cB cI cJ cZ) yX12_isInRow cX12_isInRow 5 (some .boolean) rm_X12_isInRow [.ref (o 0), .int x1, .int x2] (wX12 o cB cI cJ cZ s_o) (some (.int r)) (wX12 o cB cI cJ cZ s_o) := by
  refine met_of (by decide) (Nat.le_of_ble_eq_true rfl) ?_
  intro p e s m args below meth c A cx hr hA
  show gW p l e rm_X12_isInRow s m args below meth c D A 5 _ 0 0 _ [(0, .ref (o 0)), (1, .int x1), (2, .int x2)] 0 []
  have h28 : ∀ (K5 : Int32 → Int32 → Option (Int32)), (∀ (v3 : Int32) (v4 : Int32), K5 v3 v4 = some r → gW p l e rm_X12_isInRow s m args below meth c D A 5 (MQ below (QM D (tyL cB cI cJ cZ) (some (.int r)) (wX12 o cB cI cJ cZ s_o) (wX12 o cB cI cJ cZ s_o) s.heap.size) args s 0 0 A) 0 0 (wX12 o cB cI cJ cZ s_o) [(0, .ref (o 0)), (1, .int x1), (2, .int x2), (3, .int v3), (4, .int v4)] 5 []) → ∀ (v4 : Int32) (k0 : Int32) (k1 : Int32), F_X12_isInRow_b28 s_o x1 x2 K5 v4 k0 k1 = some r → gW p l e rm_X12_isInRow s m args below meth c D A 5 (MQ below (QM D (tyL cB cI cJ cZ) (some (.int r)) (wX12 o cB cI cJ cZ s_o) (wX12 o cB cI cJ cZ s_o) s.heap.size) args s 0 0 A) 0 0 (wX12 o cB cI cJ cZ s_o) [(0, .ref (o 0)), (1, .int x1), (2, .int x2), (4, .int v4)] 28 [.int k1, .int k0] := by
    intro K5 kh5 v4 k0 k1 hf
    rw [F_X12_isInRow_b28] at hf
    refine g_ior cx dX12_isInRow_28 ?_
    refine g_isn cx (L2 := fun v3_1 => [(3, .int v3_1), (0, .ref (o 0)), (1, .int x1), (2, .int x2), (4, .int v4)]) hf dX12_isInRow_29 (Nat.le_of_ble_eq_true rfl) (fun _ => rfl) (fun v3_1 hf => ?_)
    refine g_inc cx (L2 := fun v4_2 => [(4, .int v4_2), (3, .int v3_1), (0, .ref (o 0)), (1, .int x1), (2, .int x2)]) 4 hf dX12_isInRow_30 rfl (k_inc1 _) (Nat.le_of_ble_eq_true rfl) (fun _ => rfl) (fun v4_2 hf => ?_)
    refine g_goto (tgt := 5) cx dX12_isInRow_33 rfl ?_
    refine g_sub [2, 3, 4, 1, 0] rfl ?_
    exact kh5 _ _ hf
  have h5 : ∀ (n : Nat) (v3 : Int32) (v4 : Int32), F_X12_isInRow_b5 s_o x1 x2 n v3 v4 = some r → gW p l e rm_X12_isInRow s m args below meth c D A 5 (MQ below (QM D (tyL cB cI cJ cZ) (some (.int r)) (wX12 o cB cI cJ cZ s_o) (wX12 o cB cI cJ cZ s_o) s.heap.size) args s 0 0 A) 0 0 (wX12 o cB cI cJ cZ s_o) [(0, .ref (o 0)), (1, .int x1), (2, .int x2), (3, .int v3), (4, .int v4)] 5 [] := by
    intro n
    induction n with
    | zero => intro v3 v4 hf; rw [F_X12_isInRow_b5] at hf; cases hf
    | succ n ih =>
      intro v3 v4 hf
      rw [F_X12_isInRow_b5] at hf
      refine g_il cx 4 dX12_isInRow_5 rfl ?_
      refine g_iln cx 2 dX12_isInRow_7 rfl ?_
      refine g_ic_ge (tgt := 36) cx hf dX12_isInRow_8 rfl (fun hf => ?_) (fun hf => ?_)
      · refine g_iln cx 3 dX12_isInRow_36 rfl ?_
        refine ob hf (fun z_3 hz hf => ?_)
        exact g_zret (ovf := fun (r : Int32) => (some (.int r))) (wf := fun (r : Int32) => (wX12 o cB cI cJ cZ s_o)) cx hA hr (zb_some hz).2 hf rfl rfl dX12_isInRow_37
      · refine g_iln cx 3 dX12_isInRow_11 rfl ?_
        refine g_aln cx 0 dX12_isInRow_12 rfl ?_
        refine mg_row cx dX12_isInRow_13 ?_
        refine g_il cx 4 dX12_isInRow_16 rfl ?_
        refine ml_row cx hf dX12_isInRow_18 (fun e_4 hf => ?_)
        refine g_iln cx 1 dX12_isInRow_19 rfl ?_
        refine g_ic_ne (tgt := 27) cx hf dX12_isInRow_20 rfl (fun hf => ?_) (fun hf => ?_)
        · refine g_ic cx dX12_isInRow_27 k_ic0 ?_
          refine g_sub [0, 1, 2, 4] rfl ?_
          exact h28 _ ih _ _ _ hf
        · refine g_ic cx dX12_isInRow_23 k_ic1 ?_
          refine g_goto (tgt := 28) cx dX12_isInRow_24 rfl ?_
          refine g_sub [0, 1, 2, 4] rfl ?_
          exact h28 _ ih _ _ _ hf
  rw [F_X12_isInRow] at hf
  refine g_ic cx dX12_isInRow_0 k_ic0 ?_
  refine g_isn cx (L2 := fun v3_5 => [(3, .int v3_5), (0, .ref (o 0)), (1, .int x1), (2, .int x2)]) hf dX12_isInRow_1 (Nat.le_of_ble_eq_true rfl) (fun _ => rfl) (fun v3_5 hf => ?_)
  refine g_ic cx dX12_isInRow_2 k_ic0 ?_
  refine g_is cx (L2 := fun v4_6 => [(4, .int v4_6), (3, .int v3_5), (0, .ref (o 0)), (1, .int x1), (2, .int x2)]) hf dX12_isInRow_3 (Nat.le_of_ble_eq_true rfl) (fun _ => rfl) (fun v4_6 hf => ?_)
  refine g_sub [2, 3, 4, 1, 0] rfl ?_
  exact h5 fu _ _ hf
theorem dX12_fills_0 : decode cX12_fills 0 = .ok (.iload_n 1, 1) := by decide +kernel
theorem dX12_fills_1 : decode cX12_fills 1 = .ok (.istore_n 3, 1) := by decide +kernel
theorem dX12_fills_2 : decode cX12_fills 2 = .ok (.iload_n 3, 1) := by decide +kernel
theorem dX12_fills_3 : decode cX12_fills 3 = .ok (.iload_n 2, 1) := by decide +kernel
theorem dX12_fills_4 : decode cX12_fills 4 = .ok (.if_icmp .ge 36, 3) := by decide +kernel
theorem dX12_fills_7 : decode cX12_fills 7 = .ok (.iconst 0, 1) := by decide +kernel
theorem dX12_fills_8 : decode cX12_fills 8 = .ok (.istore 4, 2) := by decide +kernel
theorem dX12_fills_10 : decode cX12_fills 10 = .ok (.aload_n 0, 1) := by decide +kernel
theorem dX12_fills_11 : decode cX12_fills 11 = .ok (.iload 4, 2) := by decide +kernel
theorem dX12_fills_13 : decode cX12_fills 13 = .ok (.iload_n 3, 1) := by decide +kernel
theorem dX12_fills_14 : decode cX12_fills 14 = .ok (.invokevirtual 233, 3) := by decide +kernel
theorem dX12_fills_17 : decode cX12_fills 17 = .ok (.ifCond .eq 9, 3) := by decide +kernel
theorem dX12_fills_20 : decode cX12_fills 20 = .ok (.iinc 4 1, 3) := by decide +kernel
theorem dX12_fills_23 : decode cX12_fills 23 = .ok (.goto (-13), 3) := by decide +kernel
theorem dX12_fills_26 : decode cX12_fills 26 = .ok (.aload_n 0, 1) := by decide +kernel
theorem dX12_fills_27 : decode cX12_fills 27 = .ok (.getfield 62, 3) := by decide +kernel
theorem dX12_fills_30 : decode cX12_fills 30 = .ok (.iload_n 3, 1) := by decide +kernel
theorem dX12_fills_31 : decode cX12_fills 31 = .ok (.iload 4, 2) := by decide +kernel
theorem dX12_fills_33 : decode cX12_fills 33 = .ok (.iastore, 1) := by decide +kernel
theorem dX12_fills_34 : decode cX12_fills 34 = .ok (.iinc 3 1, 3) := by decide +kernel
theorem dX12_fills_37 : decode cX12_fills 37 = .ok (.goto (-35), 3) := by decide +kernel
theorem dX12_fills_40 : decode cX12_fills 40 = .ok (.return_, 1) := by decide +kernel
theorem q0_57 : Cond.selects RX12 yX12_isInRow yX12_isInRow ∈ TT := tq0 57 rfl rfl
theorem q6_62 : Cond.methodLink RX12 233 yX12_isInRow ∈ TT := tq6 62 rfl rfl
theorem q6_64 : Cond.instanceMethod yX12_isInRow ∈ TT := tq6 64 rfl rfl
theorem q6_65 : Cond.code yX12_isInRow cX12_isInRow 5 (some .boolean) ∈ TT := tq6 65 rfl rfl
theorem lk_RX12_233 : vlk RX12 233 yX12_isInRow cX12_isInRow 5 (some .boolean) 2 := ⟨List.forall_mem_cons.mpr ⟨q6_62, List.forall_mem_cons.mpr ⟨q6_64, List.forall_mem_cons.mpr ⟨q0_57, List.forall_mem_cons.mpr ⟨q1_12, fun _ h => absurd h List.not_mem_nil⟩⟩⟩⟩, q6_65, by decide, by decide, by decide +kernel⟩
theorem ms_row {p : Program} {l : Launch} {e : Env} {R : Room} {s : State} {m : MethodId} {args : Array Value} {below : List Frame} {meth : Method} {c : Code} {D : gG} {A : Nat → Prop} {nL : Nat} {Q : State → Prop} {cells slots : Nat} {cc : ByteArray} {L : List (Nat × Value)} {pc : Nat} {stk : List Value} {β : Type} {r : β} {o : Nat → Nat} {cB cI cJ cZ : ClassId} {z : SM} (cx : gX p s m args meth c cc nL RX12 D (tyL cB cI cJ cZ) A) {i : Int32} {x : Int32} {kf : SM → Option β} (hf : ((aset 6 (mA z 33) i x).bind fun f => nm (mAs z 33 f) kf) = some r) (hd : decode cc pc = .ok (.iastore, 1)) (kk : ∀ y : SM, kf y = some r → gW p l e R s m args below meth c D A nL Q cells slots (wX12 o cB cI cJ cZ y) L (pc + 1) stk) : gW p l e R s m args below meth c D A nL Q cells slots (wX12 o cB cI cJ cZ z) L pc (.int x :: .int i :: .ref (o 18) :: stk) :=
  g_iast cx 18 1 (ws' := fun f => wX12 o cB cI cJ cZ (mAs z 33 f)) hf rfl rfl (fun _ => rfl) hd (fun _ hf => kk _ hf)
def F_X12_fills_b10 (x1 : Int32) (x2 : Int32) (K2 : Int32 → SM → Option (SM)) : Nat → Int32 → Int32 → SM → Option (SM)
  | 0, _, _, _ => none
  | n + 1, v3, v4, zs_o => (F_X12_isInRow zs_o v4 v3).bind fun q_1 => (if q_1 = 0 then (aset 6 (mA zs_o 33) v3 v4).bind fun f_2 => nm (mAs zs_o 33 f_2) fun s_o_3 => nm (v3 + 1) fun v3_4 => K2 v3_4 s_o_3 else nm (v4 + 1) fun v4_5 => (F_X12_fills_b10 x1 x2 K2 n) v3 v4_5 zs_o)
def F_X12_fills_b2 (x1 : Int32) (x2 : Int32) : Nat → Int32 → SM → Option (SM)
  | 0, _, _ => none
  | n + 1, v3, zs_o => (if x2 ≤ v3 then some (zs_o) else nm 0 fun v4_6 => F_X12_fills_b10 x1 x2 (F_X12_fills_b2 x1 x2 n) fu v3 v4_6 zs_o)
def F_X12_fills (s_o : SM) (x1 : Int32) (x2 : Int32) : Option (SM) := nm x1 fun v3_7 => F_X12_fills_b2 x1 x2 fu v3_7 s_o

abbrev rm_X12_fills : Room := { frames := 1, cells := 0, slots := 0, locals := 24 }
set_option maxHeartbeats 4000000 in
set_option maxRecDepth 100000 in
theorem c_X12_fills (l : Launch) (D : gG) (cB cI cJ cZ : ClassId) (o : Nat → Nat) (s_o : SM) (x1 : Int32) (x2 : Int32) (r : SM) (hf : F_X12_fills s_o x1 x2 = some r) : gM l D (tyL cB cI cJ cZ) yX12_fills cX12_fills 5 none rm_X12_fills [.ref (o 0), .int x1, .int x2] (wX12 o cB cI cJ cZ s_o) none (wX12 o cB cI cJ cZ r) := by
  refine met_of (by decide) (Nat.le_of_ble_eq_true rfl) ?_
  intro p e s m args below meth c A cx hr hA
  show gW p l e rm_X12_fills s m args below meth c D A 5 _ 0 0 _ [(0, .ref (o 0)), (1, .int x1), (2, .int x2)] 0 []
  have h10 : ∀ (K2 : Int32 → SM → Option (SM)), (∀ (v3 : Int32) (zs_o : SM), K2 v3 zs_o = some r → gW p l e rm_X12_fills s m args below meth c D A 5 (MQ below (QM D (tyL cB cI cJ cZ) none (wX12 o cB cI cJ cZ s_o) (wX12 o cB cI cJ cZ r) s.heap.size) args s 0 0 A) 0 0 (wX12 o cB cI cJ cZ zs_o) [(0, .ref (o 0)), (2, .int x2), (3, .int v3)] 2 []) → ∀ (n : Nat) (v3 : Int32) (v4 : Int32) (zs_o : SM), F_X12_fills_b10 x1 x2 K2 n v3 v4 zs_o = some r → gW p l e rm_X12_fills s m args below meth c D A 5 (MQ below (QM D (tyL cB cI cJ cZ) none (wX12 o cB cI cJ cZ s_o) (wX12 o cB cI cJ cZ r) s.heap.size) args s 0 0 A) 0 0 (wX12 o cB cI cJ cZ zs_o) [(0, .ref (o 0)), (2, .int x2), (3, .int v3), (4, .int v4)] 10 [] := by
    intro K2 kh2 n
    induction n with
    | zero => intro v3 v4 zs_o hf; rw [F_X12_fills_b10] at hf; cases hf
    | succ n ih =>
      intro v3 v4 zs_o hf
      rw [F_X12_fills_b10] at hf
      refine g_aln cx 0 dX12_fills_10 rfl ?_
      refine g_il cx 3 dX12_fills_11 rfl ?_
      refine g_iln cx 2 dX12_fills_13 rfl ?_
      refine ob hf (fun q_1 hq_1 hf => ?_)
      refine g_callVFi cx lk_RX12_233 (c_X12_isInRow l D cB cI cJ cZ o zs_o v4 v3 q_1 hq_1) rfl (ci := 10) (q1 := 0) rfl rfl rfl (Nat.le_of_ble_eq_true rfl) ⟨rfl, rfl, Nat.le_of_ble_eq_true rfl, Nat.le_of_ble_eq_true rfl⟩ dX12_fills_14 ?_
      refine g_if_eq (tgt := 26) cx hf dX12_fills_17 rfl (fun hf => ?_) (fun hf => ?_)
      · refine g_aln cx 0 dX12_fills_26 rfl ?_
        refine mg_row cx dX12_fills_27 ?_
        refine g_iln cx 2 dX12_fills_30 rfl ?_
        refine g_il cx 3 dX12_fills_31 rfl ?_
        refine ms_row cx hf dX12_fills_33 (fun s_o_3 hf => ?_)
        refine g_inc cx (L2 := fun v3_4 => [(3, .int v3_4), (0, .ref (o 0)), (2, .int x2), (4, .int v4)]) 2 hf dX12_fills_34 rfl (k_inc1 _) (Nat.le_of_ble_eq_true rfl) (fun _ => rfl) (fun v3_4 hf => ?_)
        refine g_goto (tgt := 2) cx dX12_fills_37 rfl ?_
        refine g_sub [1, 2, 0] rfl ?_
        exact kh2 _ _ hf
      · refine g_inc cx (L2 := fun v4_5 => [(4, .int v4_5), (0, .ref (o 0)), (2, .int x2), (3, .int v3)]) 3 hf dX12_fills_20 rfl (k_inc1 _) (Nat.le_of_ble_eq_true rfl) (fun _ => rfl) (fun v4_5 hf => ?_)
        refine g_goto (tgt := 10) cx dX12_fills_23 rfl ?_
        refine g_sub [1, 2, 3, 0] rfl ?_
        exact ih _ _ _ hf
  have h2 : ∀ (n : Nat) (v3 : Int32) (zs_o : SM), F_X12_fills_b2 x1 x2 n v3 zs_o = some r → gW p l e rm_X12_fills s m args below meth c D A 5 (MQ below (QM D (tyL cB cI cJ cZ) none (wX12 o cB cI cJ cZ s_o) (wX12 o cB cI cJ cZ r) s.heap.size) args s 0 0 A) 0 0 (wX12 o cB cI cJ cZ zs_o) [(0, .ref (o 0)), (2, .int x2), (3, .int v3)] 2 [] := by
    intro n
    induction n with
    | zero => intro v3 zs_o hf; rw [F_X12_fills_b2] at hf; cases hf
    | succ n ih =>
      intro v3 zs_o hf
      rw [F_X12_fills_b2] at hf
      refine g_iln cx 2 dX12_fills_2 rfl ?_
      refine g_iln cx 1 dX12_fills_3 rfl ?_
      refine g_ic_ge (tgt := 40) cx hf dX12_fills_4 rfl (fun hf => ?_) (fun hf => ?_)
      · exact g_vret (ovf := fun (r : SM) => none) (wf := fun (r : SM) => (wX12 o cB cI cJ cZ r)) cx hA hr hf rfl rfl dX12_fills_40
      · refine g_ic cx dX12_fills_7 k_ic0 ?_
        refine g_is cx (L2 := fun v4_6 => [(4, .int v4_6), (0, .ref (o 0)), (2, .int x2), (3, .int v3)]) hf dX12_fills_8 (Nat.le_of_ble_eq_true rfl) (fun _ => rfl) (fun v4_6 hf => ?_)
        refine g_sub [1, 2, 3, 0] rfl ?_
        exact h10 _ ih fu _ _ _ hf
  rw [F_X12_fills] at hf
  refine g_iln cx 1 dX12_fills_0 rfl ?_
  refine g_isn cx (L2 := fun v3_7 => [(3, .int v3_7), (0, .ref (o 0)), (1, .int x1), (2, .int x2)]) hf dX12_fills_1 (Nat.le_of_ble_eq_true rfl) (fun _ => rfl) (fun v3_7 hf => ?_)
  refine g_sub [1, 3, 0] rfl ?_
  exact h2 fu _ _ hf
theorem dX12_goesOn_0 : decode cX12_goesOn 0 = .ok (.iload_n 1, 1) := by decide +kernel
theorem dX12_goesOn_1 : decode cX12_goesOn 1 = .ok (.iconst 1, 1) := by decide +kernel
theorem dX12_goesOn_2 : decode cX12_goesOn 2 = .ok (.isub, 1) := by decide +kernel
theorem dX12_goesOn_3 : decode cX12_goesOn 3 = .ok (.istore_n 2, 1) := by decide +kernel
theorem dX12_goesOn_4 : decode cX12_goesOn 4 = .ok (.iload_n 2, 1) := by decide +kernel
theorem dX12_goesOn_5 : decode cX12_goesOn 5 = .ok (.ifCond .lt 66, 3) := by decide +kernel
theorem dX12_goesOn_8 : decode cX12_goesOn 8 = .ok (.aload_n 0, 1) := by decide +kernel
theorem dX12_goesOn_9 : decode cX12_goesOn 9 = .ok (.getfield 62, 3) := by decide +kernel
theorem dX12_goesOn_12 : decode cX12_goesOn 12 = .ok (.iload_n 2, 1) := by decide +kernel
theorem dX12_goesOn_13 : decode cX12_goesOn 13 = .ok (.iaload, 1) := by decide +kernel
theorem dX12_goesOn_14 : decode cX12_goesOn 14 = .ok (.iconst 1, 1) := by decide +kernel
theorem dX12_goesOn_15 : decode cX12_goesOn 15 = .ok (.iadd, 1) := by decide +kernel
theorem dX12_goesOn_16 : decode cX12_goesOn 16 = .ok (.istore_n 3, 1) := by decide +kernel
theorem dX12_goesOn_17 : decode cX12_goesOn 17 = .ok (.iload_n 3, 1) := by decide +kernel
theorem dX12_goesOn_18 : decode cX12_goesOn 18 = .ok (.aload_n 0, 1) := by decide +kernel
theorem dX12_goesOn_19 : decode cX12_goesOn 19 = .ok (.getfield 172, 3) := by decide +kernel
theorem dX12_goesOn_22 : decode cX12_goesOn 22 = .ok (.if_icmp .ge 18, 3) := by decide +kernel
theorem dX12_goesOn_25 : decode cX12_goesOn 25 = .ok (.aload_n 0, 1) := by decide +kernel
theorem dX12_goesOn_26 : decode cX12_goesOn 26 = .ok (.iload_n 3, 1) := by decide +kernel
theorem dX12_goesOn_27 : decode cX12_goesOn 27 = .ok (.iload_n 2, 1) := by decide +kernel
theorem dX12_goesOn_28 : decode cX12_goesOn 28 = .ok (.invokevirtual 233, 3) := by decide +kernel
theorem dX12_goesOn_31 : decode cX12_goesOn 31 = .ok (.ifCond .eq 9, 3) := by decide +kernel
theorem dX12_goesOn_34 : decode cX12_goesOn 34 = .ok (.iinc 3 1, 3) := by decide +kernel
theorem dX12_goesOn_37 : decode cX12_goesOn 37 = .ok (.goto (-20), 3) := by decide +kernel
theorem dX12_goesOn_40 : decode cX12_goesOn 40 = .ok (.iload_n 3, 1) := by decide +kernel
theorem dX12_goesOn_41 : decode cX12_goesOn 41 = .ok (.aload_n 0, 1) := by decide +kernel
theorem dX12_goesOn_42 : decode cX12_goesOn 42 = .ok (.getfield 172, 3) := by decide +kernel
theorem dX12_goesOn_45 : decode cX12_goesOn 45 = .ok (.if_icmp .ge 20, 3) := by decide +kernel
theorem dX12_goesOn_48 : decode cX12_goesOn 48 = .ok (.aload_n 0, 1) := by decide +kernel
theorem dX12_goesOn_49 : decode cX12_goesOn 49 = .ok (.getfield 62, 3) := by decide +kernel
theorem dX12_goesOn_52 : decode cX12_goesOn 52 = .ok (.iload_n 2, 1) := by decide +kernel
theorem dX12_goesOn_53 : decode cX12_goesOn 53 = .ok (.iload_n 3, 1) := by decide +kernel
theorem dX12_goesOn_54 : decode cX12_goesOn 54 = .ok (.iastore, 1) := by decide +kernel
theorem dX12_goesOn_55 : decode cX12_goesOn 55 = .ok (.aload_n 0, 1) := by decide +kernel
theorem dX12_goesOn_56 : decode cX12_goesOn 56 = .ok (.iload_n 2, 1) := by decide +kernel
theorem dX12_goesOn_57 : decode cX12_goesOn 57 = .ok (.iconst 1, 1) := by decide +kernel
theorem dX12_goesOn_58 : decode cX12_goesOn 58 = .ok (.iadd, 1) := by decide +kernel
theorem dX12_goesOn_59 : decode cX12_goesOn 59 = .ok (.iload_n 1, 1) := by decide +kernel
theorem dX12_goesOn_60 : decode cX12_goesOn 60 = .ok (.invokevirtual 236, 3) := by decide +kernel
theorem dX12_goesOn_63 : decode cX12_goesOn 63 = .ok (.iconst 1, 1) := by decide +kernel
theorem dX12_goesOn_64 : decode cX12_goesOn 64 = .ok (.ireturn, 1) := by decide +kernel
theorem dX12_goesOn_65 : decode cX12_goesOn 65 = .ok (.iinc 2 (-1), 3) := by decide +kernel
theorem dX12_goesOn_68 : decode cX12_goesOn 68 = .ok (.goto (-64), 3) := by decide +kernel
theorem dX12_goesOn_71 : decode cX12_goesOn 71 = .ok (.iconst 0, 1) := by decide +kernel
theorem dX12_goesOn_72 : decode cX12_goesOn 72 = .ok (.ireturn, 1) := by decide +kernel
theorem q0_56 : Cond.selects RX12 yX12_fills yX12_fills ∈ TT := tq0 56 rfl rfl
theorem q6_58 : Cond.methodLink RX12 236 yX12_fills ∈ TT := tq6 58 rfl rfl
theorem q6_60 : Cond.instanceMethod yX12_fills ∈ TT := tq6 60 rfl rfl
theorem q6_61 : Cond.code yX12_fills cX12_fills 5 none ∈ TT := tq6 61 rfl rfl
theorem lk_RX12_236 : vlk RX12 236 yX12_fills cX12_fills 5 none 2 := ⟨List.forall_mem_cons.mpr ⟨q6_58, List.forall_mem_cons.mpr ⟨q6_60, List.forall_mem_cons.mpr ⟨q0_56, List.forall_mem_cons.mpr ⟨q1_12, fun _ h => absurd h List.not_mem_nil⟩⟩⟩⟩, q6_61, by decide, by decide, by decide +kernel⟩
def F_X12_goesOn_b40 (x1 : Int32) (K4 : Int32 → SM → Option (Int32 × SM)) (v2 : Int32) (v3 : Int32) (zs_o : SM) : Option (Int32 × SM) := (if (mI zs_o 15) ≤ v3 then nm (v2 - 1) fun v2_1 => K4 v2_1 zs_o else (aset 6 (mA zs_o 33) v2 v3).bind fun f_2 => nm (mAs zs_o 33 f_2) fun s_o_3 => (F_X12_fills s_o_3 (v2 + 1) x1).bind fun q_4 => some (1, q_4))
def F_X12_goesOn_b17 (x1 : Int32) (K4 : Int32 → SM → Option (Int32 × SM)) : Nat → Int32 → Int32 → SM → Option (Int32 × SM)
  | 0, _, _, _ => none
  | n + 1, v2, v3, zs_o => (if (mI zs_o 15) ≤ v3 then F_X12_goesOn_b40 x1 K4 v2 v3 zs_o else (F_X12_isInRow zs_o v3 v2).bind fun q_5 => (if q_5 = 0 then F_X12_goesOn_b40 x1 K4 v2 v3 zs_o else nm (v3 + 1) fun v3_6 => (F_X12_goesOn_b17 x1 K4 n) v2 v3_6 zs_o))
def F_X12_goesOn_b4 (x1 : Int32) : Nat → Int32 → SM → Option (Int32 × SM)
  | 0, _, _ => none
  | n + 1, v2, zs_o => (if v2 < 0 then some (0, zs_o) else (aget 6 (mA zs_o 33) v2).bind fun e_7 => nm (e_7 + 1) fun v3_8 => F_X12_goesOn_b17 x1 (F_X12_goesOn_b4 x1 n) fu v2 v3_8 zs_o)
def F_X12_goesOn (s_o : SM) (x1 : Int32) : Option (Int32 × SM) := nm (x1 - 1) fun v2_9 => F_X12_goesOn_b4 x1 fu v2_9 s_o

abbrev rm_X12_goesOn : Room := { frames := 2, cells := 0, slots := 0, locals := 48 }
set_option maxHeartbeats 4000000 in
set_option maxRecDepth 100000 in
theorem c_X12_goesOn (l : Launch) (D : gG) (cB cI cJ cZ : ClassId) (o : Nat → Nat) (s_o : SM) (x1 : Int32) (r : Int32 × SM) (hf : F_X12_goesOn s_o x1 = some r) : gM l D (tyL cB cI cJ cZ) yX12_goesOn cX12_goesOn 4 (some .boolean) rm_X12_goesOn [.ref (o 0), .int x1] (wX12 o cB cI cJ cZ s_o) (some (.int r.1)) (wX12 o cB cI cJ cZ r.2) := by
  refine met_of (by decide) (Nat.le_of_ble_eq_true rfl) ?_
  intro p e s m args below meth c A cx hr hA
  show gW p l e rm_X12_goesOn s m args below meth c D A 4 _ 0 0 _ [(0, .ref (o 0)), (1, .int x1)] 0 []
  have h40 : ∀ (K4 : Int32 → SM → Option (Int32 × SM)), (∀ (v2 : Int32) (zs_o : SM), K4 v2 zs_o = some r → gW p l e rm_X12_goesOn s m args below meth c D A 4 (MQ below (QM D (tyL cB cI cJ cZ) (some (.int r.1)) (wX12 o cB cI cJ cZ s_o) (wX12 o cB cI cJ cZ r.2) s.heap.size) args s 0 0 A) 0 0 (wX12 o cB cI cJ cZ zs_o) [(0, .ref (o 0)), (1, .int x1), (2, .int v2)] 4 []) → ∀ (v2 : Int32) (v3 : Int32) (zs_o : SM), F_X12_goesOn_b40 x1 K4 v2 v3 zs_o = some r → gW p l e rm_X12_goesOn s m args below meth c D A 4 (MQ below (QM D (tyL cB cI cJ cZ) (some (.int r.1)) (wX12 o cB cI cJ cZ s_o) (wX12 o cB cI cJ cZ r.2) s.heap.size) args s 0 0 A) 0 0 (wX12 o cB cI cJ cZ zs_o) [(0, .ref (o 0)), (1, .int x1), (2, .int v2), (3, .int v3)] 40 [] := by
    intro K4 kh4 v2 v3 zs_o hf
    rw [F_X12_goesOn_b40] at hf
    refine g_iln cx 3 dX12_goesOn_40 rfl ?_
    refine g_aln cx 0 dX12_goesOn_41 rfl ?_
    refine mg_stocks cx dX12_goesOn_42 ?_
    refine g_ic_ge (tgt := 65) cx hf dX12_goesOn_45 rfl (fun hf => ?_) (fun hf => ?_)
    · refine g_inc cx (L2 := fun v2_1 => [(2, .int v2_1), (0, .ref (o 0)), (1, .int x1), (3, .int v3)]) 2 hf dX12_goesOn_65 rfl (k_incm1 _) (Nat.le_of_ble_eq_true rfl) (fun _ => rfl) (fun v2_1 hf => ?_)
      refine g_goto (tgt := 4) cx dX12_goesOn_68 rfl ?_
      refine g_sub [1, 2, 0] rfl ?_
      exact kh4 _ _ hf
    · refine g_aln cx 0 dX12_goesOn_48 rfl ?_
      refine mg_row cx dX12_goesOn_49 ?_
      refine g_iln cx 2 dX12_goesOn_52 rfl ?_
      refine g_iln cx 3 dX12_goesOn_53 rfl ?_
      refine ms_row cx hf dX12_goesOn_54 (fun s_o_3 hf => ?_)
      refine g_aln cx 0 dX12_goesOn_55 rfl ?_
      refine g_iln cx 2 dX12_goesOn_56 rfl ?_
      refine g_ic cx dX12_goesOn_57 k_ic1 ?_
      refine g_iadd cx dX12_goesOn_58 ?_
      refine g_iln cx 1 dX12_goesOn_59 rfl ?_
      refine ob hf (fun q_4 hq_4 hf => ?_)
      refine g_callVFv cx lk_RX12_236 (c_X12_fills l D cB cI cJ cZ o s_o_3 (v2 + 1) x1 q_4 hq_4) rfl (ci := 10) (q1 := 0) rfl rfl rfl (Nat.le_of_ble_eq_true rfl) ⟨rfl, rfl, Nat.le_of_ble_eq_true rfl, Nat.le_of_ble_eq_true rfl⟩ dX12_goesOn_60 ?_
      refine g_ic cx dX12_goesOn_63 k_ic1 ?_
      exact g_zret (ovf := fun (r : Int32 × SM) => (some (.int r.1))) (wf := fun (r : Int32 × SM) => (wX12 o cB cI cJ cZ r.2)) cx hA hr rfl hf rfl rfl dX12_goesOn_64
  have h17 : ∀ (K4 : Int32 → SM → Option (Int32 × SM)), (∀ (v2 : Int32) (zs_o : SM), K4 v2 zs_o = some r → gW p l e rm_X12_goesOn s m args below meth c D A 4 (MQ below (QM D (tyL cB cI cJ cZ) (some (.int r.1)) (wX12 o cB cI cJ cZ s_o) (wX12 o cB cI cJ cZ r.2) s.heap.size) args s 0 0 A) 0 0 (wX12 o cB cI cJ cZ zs_o) [(0, .ref (o 0)), (1, .int x1), (2, .int v2)] 4 []) → ∀ (n : Nat) (v2 : Int32) (v3 : Int32) (zs_o : SM), F_X12_goesOn_b17 x1 K4 n v2 v3 zs_o = some r → gW p l e rm_X12_goesOn s m args below meth c D A 4 (MQ below (QM D (tyL cB cI cJ cZ) (some (.int r.1)) (wX12 o cB cI cJ cZ s_o) (wX12 o cB cI cJ cZ r.2) s.heap.size) args s 0 0 A) 0 0 (wX12 o cB cI cJ cZ zs_o) [(0, .ref (o 0)), (1, .int x1), (2, .int v2), (3, .int v3)] 17 [] := by
    intro K4 kh4 n
    induction n with
    | zero => intro v2 v3 zs_o hf; rw [F_X12_goesOn_b17] at hf; cases hf
    | succ n ih =>
      intro v2 v3 zs_o hf
      rw [F_X12_goesOn_b17] at hf
      refine g_iln cx 3 dX12_goesOn_17 rfl ?_
      refine g_aln cx 0 dX12_goesOn_18 rfl ?_
      refine mg_stocks cx dX12_goesOn_19 ?_
      refine g_ic_ge (tgt := 40) cx hf dX12_goesOn_22 rfl (fun hf => ?_) (fun hf => ?_)
      · exact h40 _ kh4 _ _ _ hf
      · refine g_aln cx 0 dX12_goesOn_25 rfl ?_
        refine g_iln cx 3 dX12_goesOn_26 rfl ?_
        refine g_iln cx 2 dX12_goesOn_27 rfl ?_
        refine ob hf (fun q_5 hq_5 hf => ?_)
        refine g_callVFi cx lk_RX12_233 (c_X12_isInRow l D cB cI cJ cZ o zs_o v3 v2 q_5 hq_5) rfl (ci := 10) (q1 := 0) rfl rfl rfl (Nat.le_of_ble_eq_true rfl) ⟨rfl, rfl, Nat.le_of_ble_eq_true rfl, Nat.le_of_ble_eq_true rfl⟩ dX12_goesOn_28 ?_
        refine g_if_eq (tgt := 40) cx hf dX12_goesOn_31 rfl (fun hf => ?_) (fun hf => ?_)
        · exact h40 _ kh4 _ _ _ hf
        · refine g_inc cx (L2 := fun v3_6 => [(3, .int v3_6), (0, .ref (o 0)), (1, .int x1), (2, .int v2)]) 3 hf dX12_goesOn_34 rfl (k_inc1 _) (Nat.le_of_ble_eq_true rfl) (fun _ => rfl) (fun v3_6 hf => ?_)
          refine g_goto (tgt := 17) cx dX12_goesOn_37 rfl ?_
          refine g_sub [1, 2, 3, 0] rfl ?_
          exact ih _ _ _ hf
  have h4 : ∀ (n : Nat) (v2 : Int32) (zs_o : SM), F_X12_goesOn_b4 x1 n v2 zs_o = some r → gW p l e rm_X12_goesOn s m args below meth c D A 4 (MQ below (QM D (tyL cB cI cJ cZ) (some (.int r.1)) (wX12 o cB cI cJ cZ s_o) (wX12 o cB cI cJ cZ r.2) s.heap.size) args s 0 0 A) 0 0 (wX12 o cB cI cJ cZ zs_o) [(0, .ref (o 0)), (1, .int x1), (2, .int v2)] 4 [] := by
    intro n
    induction n with
    | zero => intro v2 zs_o hf; rw [F_X12_goesOn_b4] at hf; cases hf
    | succ n ih =>
      intro v2 zs_o hf
      rw [F_X12_goesOn_b4] at hf
      refine g_iln cx 2 dX12_goesOn_4 rfl ?_
      refine g_if_lt (tgt := 71) cx hf dX12_goesOn_5 rfl (fun hf => ?_) (fun hf => ?_)
      · refine g_ic cx dX12_goesOn_71 k_ic0 ?_
        exact g_zret (ovf := fun (r : Int32 × SM) => (some (.int r.1))) (wf := fun (r : Int32 × SM) => (wX12 o cB cI cJ cZ r.2)) cx hA hr rfl hf rfl rfl dX12_goesOn_72
      · refine g_aln cx 0 dX12_goesOn_8 rfl ?_
        refine mg_row cx dX12_goesOn_9 ?_
        refine g_iln cx 2 dX12_goesOn_12 rfl ?_
        refine ml_row cx hf dX12_goesOn_13 (fun e_7 hf => ?_)
        refine g_ic cx dX12_goesOn_14 k_ic1 ?_
        refine g_iadd cx dX12_goesOn_15 ?_
        refine g_isn cx (L2 := fun v3_8 => [(3, .int v3_8), (0, .ref (o 0)), (1, .int x1), (2, .int v2)]) hf dX12_goesOn_16 (Nat.le_of_ble_eq_true rfl) (fun _ => rfl) (fun v3_8 hf => ?_)
        refine g_sub [1, 2, 3, 0] rfl ?_
        exact h17 _ ih fu _ _ _ hf
  rw [F_X12_goesOn] at hf
  refine g_iln cx 1 dX12_goesOn_0 rfl ?_
  refine g_ic cx dX12_goesOn_1 k_ic1 ?_
  refine g_isub cx dX12_goesOn_2 ?_
  refine g_isn cx (L2 := fun v2_9 => [(2, .int v2_9), (0, .ref (o 0)), (1, .int x1)]) hf dX12_goesOn_3 (Nat.le_of_ble_eq_true rfl) (fun _ => rfl) (fun v2_9 hf => ?_)
  refine g_sub [1, 2, 0] rfl ?_
  exact h4 fu _ _ hf
theorem dX12_laysRow_0 : decode cX12_laysRow 0 = .ok (.aload_n 0, 1) := by decide +kernel
theorem dX12_laysRow_1 : decode cX12_laysRow 1 = .ok (.iload_n 1, 1) := by decide +kernel
theorem dX12_laysRow_2 : decode cX12_laysRow 2 = .ok (.putfield 188, 3) := by decide +kernel
theorem dX12_laysRow_5 : decode cX12_laysRow 5 = .ok (.iconst 0, 1) := by decide +kernel
theorem dX12_laysRow_6 : decode cX12_laysRow 6 = .ok (.istore_n 2, 1) := by decide +kernel
theorem dX12_laysRow_7 : decode cX12_laysRow 7 = .ok (.iload_n 2, 1) := by decide +kernel
theorem dX12_laysRow_8 : decode cX12_laysRow 8 = .ok (.iload_n 1, 1) := by decide +kernel
theorem dX12_laysRow_9 : decode cX12_laysRow 9 = .ok (.if_icmp .ge 80, 3) := by decide +kernel
theorem dX12_laysRow_12 : decode cX12_laysRow 12 = .ok (.aload_n 0, 1) := by decide +kernel
theorem dX12_laysRow_13 : decode cX12_laysRow 13 = .ok (.getfield 38, 3) := by decide +kernel
theorem dX12_laysRow_16 : decode cX12_laysRow 16 = .ok (.iconst 3, 1) := by decide +kernel
theorem dX12_laysRow_17 : decode cX12_laysRow 17 = .ok (.iload_n 2, 1) := by decide +kernel
theorem dX12_laysRow_18 : decode cX12_laysRow 18 = .ok (.imul, 1) := by decide +kernel
theorem dX12_laysRow_19 : decode cX12_laysRow 19 = .ok (.aload_n 0, 1) := by decide +kernel
theorem dX12_laysRow_20 : decode cX12_laysRow 20 = .ok (.getfield 22, 3) := by decide +kernel
theorem dX12_laysRow_23 : decode cX12_laysRow 23 = .ok (.iconst 3, 1) := by decide +kernel
theorem dX12_laysRow_24 : decode cX12_laysRow 24 = .ok (.aload_n 0, 1) := by decide +kernel
theorem dX12_laysRow_25 : decode cX12_laysRow 25 = .ok (.getfield 62, 3) := by decide +kernel
theorem dX12_laysRow_28 : decode cX12_laysRow 28 = .ok (.iload_n 2, 1) := by decide +kernel
theorem dX12_laysRow_29 : decode cX12_laysRow 29 = .ok (.iaload, 1) := by decide +kernel
theorem dX12_laysRow_30 : decode cX12_laysRow 30 = .ok (.imul, 1) := by decide +kernel
theorem dX12_laysRow_31 : decode cX12_laysRow 31 = .ok (.iaload, 1) := by decide +kernel
theorem dX12_laysRow_32 : decode cX12_laysRow 32 = .ok (.iastore, 1) := by decide +kernel
theorem dX12_laysRow_33 : decode cX12_laysRow 33 = .ok (.aload_n 0, 1) := by decide +kernel
theorem dX12_laysRow_34 : decode cX12_laysRow 34 = .ok (.getfield 38, 3) := by decide +kernel
theorem dX12_laysRow_37 : decode cX12_laysRow 37 = .ok (.iconst 3, 1) := by decide +kernel
theorem dX12_laysRow_38 : decode cX12_laysRow 38 = .ok (.iload_n 2, 1) := by decide +kernel
theorem dX12_laysRow_39 : decode cX12_laysRow 39 = .ok (.imul, 1) := by decide +kernel
theorem dX12_laysRow_40 : decode cX12_laysRow 40 = .ok (.iconst 1, 1) := by decide +kernel
theorem dX12_laysRow_41 : decode cX12_laysRow 41 = .ok (.iadd, 1) := by decide +kernel
theorem dX12_laysRow_42 : decode cX12_laysRow 42 = .ok (.aload_n 0, 1) := by decide +kernel
theorem dX12_laysRow_43 : decode cX12_laysRow 43 = .ok (.getfield 22, 3) := by decide +kernel
theorem dX12_laysRow_46 : decode cX12_laysRow 46 = .ok (.iconst 3, 1) := by decide +kernel
theorem dX12_laysRow_47 : decode cX12_laysRow 47 = .ok (.aload_n 0, 1) := by decide +kernel
theorem dX12_laysRow_48 : decode cX12_laysRow 48 = .ok (.getfield 62, 3) := by decide +kernel
theorem dX12_laysRow_51 : decode cX12_laysRow 51 = .ok (.iload_n 2, 1) := by decide +kernel
theorem dX12_laysRow_52 : decode cX12_laysRow 52 = .ok (.iaload, 1) := by decide +kernel
theorem dX12_laysRow_53 : decode cX12_laysRow 53 = .ok (.imul, 1) := by decide +kernel
theorem dX12_laysRow_54 : decode cX12_laysRow 54 = .ok (.iconst 1, 1) := by decide +kernel
theorem dX12_laysRow_55 : decode cX12_laysRow 55 = .ok (.iadd, 1) := by decide +kernel
theorem dX12_laysRow_56 : decode cX12_laysRow 56 = .ok (.iaload, 1) := by decide +kernel
theorem dX12_laysRow_57 : decode cX12_laysRow 57 = .ok (.iastore, 1) := by decide +kernel
theorem dX12_laysRow_58 : decode cX12_laysRow 58 = .ok (.aload_n 0, 1) := by decide +kernel
theorem dX12_laysRow_59 : decode cX12_laysRow 59 = .ok (.getfield 38, 3) := by decide +kernel
theorem dX12_laysRow_62 : decode cX12_laysRow 62 = .ok (.iconst 3, 1) := by decide +kernel
theorem dX12_laysRow_63 : decode cX12_laysRow 63 = .ok (.iload_n 2, 1) := by decide +kernel
theorem dX12_laysRow_64 : decode cX12_laysRow 64 = .ok (.imul, 1) := by decide +kernel
theorem dX12_laysRow_65 : decode cX12_laysRow 65 = .ok (.iconst 2, 1) := by decide +kernel
theorem dX12_laysRow_66 : decode cX12_laysRow 66 = .ok (.iadd, 1) := by decide +kernel
theorem dX12_laysRow_67 : decode cX12_laysRow 67 = .ok (.aload_n 0, 1) := by decide +kernel
theorem dX12_laysRow_68 : decode cX12_laysRow 68 = .ok (.getfield 22, 3) := by decide +kernel
theorem dX12_laysRow_71 : decode cX12_laysRow 71 = .ok (.iconst 3, 1) := by decide +kernel
theorem dX12_laysRow_72 : decode cX12_laysRow 72 = .ok (.aload_n 0, 1) := by decide +kernel
theorem dX12_laysRow_73 : decode cX12_laysRow 73 = .ok (.getfield 62, 3) := by decide +kernel
theorem dX12_laysRow_76 : decode cX12_laysRow 76 = .ok (.iload_n 2, 1) := by decide +kernel
theorem dX12_laysRow_77 : decode cX12_laysRow 77 = .ok (.iaload, 1) := by decide +kernel
theorem dX12_laysRow_78 : decode cX12_laysRow 78 = .ok (.imul, 1) := by decide +kernel
theorem dX12_laysRow_79 : decode cX12_laysRow 79 = .ok (.iconst 2, 1) := by decide +kernel
theorem dX12_laysRow_80 : decode cX12_laysRow 80 = .ok (.iadd, 1) := by decide +kernel
theorem dX12_laysRow_81 : decode cX12_laysRow 81 = .ok (.iaload, 1) := by decide +kernel
theorem dX12_laysRow_82 : decode cX12_laysRow 82 = .ok (.iastore, 1) := by decide +kernel
theorem dX12_laysRow_83 : decode cX12_laysRow 83 = .ok (.iinc 2 1, 3) := by decide +kernel
theorem dX12_laysRow_86 : decode cX12_laysRow 86 = .ok (.goto (-79), 3) := by decide +kernel
theorem dX12_laysRow_89 : decode cX12_laysRow 89 = .ok (.return_, 1) := by decide +kernel


def F_X12_laysRow_b7 (x1 : Int32) : Nat → Int32 → SM → Option (SM)
  | 0, _, _ => none
  | n + 1, v2, zs_o => (if x1 ≤ v2 then some (zs_o) else (aget 6 (mA zs_o 33) v2).bind fun e_1 => (aget 36 (mA zs_o 12) (3 * e_1)).bind fun e_2 => (aset 27 (mA zs_o 24) (3 * v2) e_2).bind fun f_3 => nm (mAs zs_o 24 f_3) fun s_o_4 => (aget 6 (mA s_o_4 33) v2).bind fun e_5 => (aget 36 (mA s_o_4 12) ((3 * e_5) + 1)).bind fun e_6 => (aset 27 (mA s_o_4 24) ((3 * v2) + 1) e_6).bind fun f_7 => nm (mAs s_o_4 24 f_7) fun s_o_8 => (aget 6 (mA s_o_8 33) v2).bind fun e_9 => (aget 36 (mA s_o_8 12) ((3 * e_9) + 2)).bind fun e_10 => (aset 27 (mA s_o_8 24) ((3 * v2) + 2) e_10).bind fun f_11 => nm (mAs s_o_8 24 f_11) fun s_o_12 => nm (v2 + 1) fun v2_13 => (F_X12_laysRow_b7 x1 n) v2_13 s_o_12)
def F_X12_laysRow (s_o : SM) (x1 : Int32) : Option (SM) := nm (mIs s_o 25 x1) fun s_o_14 => nm 0 fun v2_15 => F_X12_laysRow_b7 x1 fu v2_15 s_o_14

abbrev rm_X12_laysRow : Room := { frames := 0, cells := 0, slots := 0, locals := 0 }
set_option maxHeartbeats 4000000 in
set_option maxRecDepth 100000 in
theorem c_X12_laysRow (l : Launch) (D : gG) (cB cI cJ cZ : ClassId) (o : Nat → Nat) (s_o : SM) (x1 : Int32) (r : SM) (hf : F_X12_laysRow s_o x1 = some r) : gM l D (tyL cB cI cJ cZ) yX12_laysRow cX12_laysRow 3 none rm_X12_laysRow [.ref (o 0), .int x1] (wX12 o cB cI cJ cZ s_o) none (wX12 o cB cI cJ cZ r) := by
  refine met_of (by decide) (Nat.le_of_ble_eq_true rfl) ?_
  intro p e s m args below meth c A cx hr hA
  show gW p l e rm_X12_laysRow s m args below meth c D A 3 _ 0 0 _ [(0, .ref (o 0)), (1, .int x1)] 0 []
  have h7 : ∀ (n : Nat) (v2 : Int32) (zs_o : SM), F_X12_laysRow_b7 x1 n v2 zs_o = some r → gW p l e rm_X12_laysRow s m args below meth c D A 3 (MQ below (QM D (tyL cB cI cJ cZ) none (wX12 o cB cI cJ cZ s_o) (wX12 o cB cI cJ cZ r) s.heap.size) args s 0 0 A) 0 0 (wX12 o cB cI cJ cZ zs_o) [(0, .ref (o 0)), (1, .int x1), (2, .int v2)] 7 [] := by
    intro n
    induction n with
    | zero => intro v2 zs_o hf; rw [F_X12_laysRow_b7] at hf; cases hf
    | succ n ih =>
      intro v2 zs_o hf
      rw [F_X12_laysRow_b7] at hf
      refine g_iln cx 2 dX12_laysRow_7 rfl ?_
      refine g_iln cx 1 dX12_laysRow_8 rfl ?_
      refine g_ic_ge (tgt := 89) cx hf dX12_laysRow_9 rfl (fun hf => ?_) (fun hf => ?_)
      · exact g_vret (ovf := fun (r : SM) => none) (wf := fun (r : SM) => (wX12 o cB cI cJ cZ r)) cx hA hr hf rfl rfl dX12_laysRow_89
      · refine g_aln cx 0 dX12_laysRow_12 rfl ?_
        refine mg_tried cx dX12_laysRow_13 ?_
        refine g_ic cx dX12_laysRow_16 k_ic3 ?_
        refine g_iln cx 2 dX12_laysRow_17 rfl ?_
        refine g_imul cx dX12_laysRow_18 ?_
        refine g_aln cx 0 dX12_laysRow_19 rfl ?_
        refine mg_stock cx dX12_laysRow_20 ?_
        refine g_ic cx dX12_laysRow_23 k_ic3 ?_
        refine g_aln cx 0 dX12_laysRow_24 rfl ?_
        refine mg_row cx dX12_laysRow_25 ?_
        refine g_iln cx 2 dX12_laysRow_28 rfl ?_
        refine ml_row cx hf dX12_laysRow_29 (fun e_1 hf => ?_)
        refine g_imul cx dX12_laysRow_30 ?_
        refine ml_stock cx hf dX12_laysRow_31 (fun e_2 hf => ?_)
        refine ms_tried cx hf dX12_laysRow_32 (fun s_o_4 hf => ?_)
        refine g_aln cx 0 dX12_laysRow_33 rfl ?_
        refine mg_tried cx dX12_laysRow_34 ?_
        refine g_ic cx dX12_laysRow_37 k_ic3 ?_
        refine g_iln cx 2 dX12_laysRow_38 rfl ?_
        refine g_imul cx dX12_laysRow_39 ?_
        refine g_ic cx dX12_laysRow_40 k_ic1 ?_
        refine g_iadd cx dX12_laysRow_41 ?_
        refine g_aln cx 0 dX12_laysRow_42 rfl ?_
        refine mg_stock cx dX12_laysRow_43 ?_
        refine g_ic cx dX12_laysRow_46 k_ic3 ?_
        refine g_aln cx 0 dX12_laysRow_47 rfl ?_
        refine mg_row cx dX12_laysRow_48 ?_
        refine g_iln cx 2 dX12_laysRow_51 rfl ?_
        refine ml_row cx hf dX12_laysRow_52 (fun e_5 hf => ?_)
        refine g_imul cx dX12_laysRow_53 ?_
        refine g_ic cx dX12_laysRow_54 k_ic1 ?_
        refine g_iadd cx dX12_laysRow_55 ?_
        refine ml_stock cx hf dX12_laysRow_56 (fun e_6 hf => ?_)
        refine ms_tried cx hf dX12_laysRow_57 (fun s_o_8 hf => ?_)
        refine g_aln cx 0 dX12_laysRow_58 rfl ?_
        refine mg_tried cx dX12_laysRow_59 ?_
        refine g_ic cx dX12_laysRow_62 k_ic3 ?_
        refine g_iln cx 2 dX12_laysRow_63 rfl ?_
        refine g_imul cx dX12_laysRow_64 ?_
        refine g_ic cx dX12_laysRow_65 k_ic2 ?_
        refine g_iadd cx dX12_laysRow_66 ?_
        refine g_aln cx 0 dX12_laysRow_67 rfl ?_
        refine mg_stock cx dX12_laysRow_68 ?_
        refine g_ic cx dX12_laysRow_71 k_ic3 ?_
        refine g_aln cx 0 dX12_laysRow_72 rfl ?_
        refine mg_row cx dX12_laysRow_73 ?_
        refine g_iln cx 2 dX12_laysRow_76 rfl ?_
        refine ml_row cx hf dX12_laysRow_77 (fun e_9 hf => ?_)
        refine g_imul cx dX12_laysRow_78 ?_
        refine g_ic cx dX12_laysRow_79 k_ic2 ?_
        refine g_iadd cx dX12_laysRow_80 ?_
        refine ml_stock cx hf dX12_laysRow_81 (fun e_10 hf => ?_)
        refine ms_tried cx hf dX12_laysRow_82 (fun s_o_12 hf => ?_)
        refine g_inc cx (L2 := fun v2_13 => [(2, .int v2_13), (0, .ref (o 0)), (1, .int x1)]) 2 hf dX12_laysRow_83 rfl (k_inc1 _) (Nat.le_of_ble_eq_true rfl) (fun _ => rfl) (fun v2_13 hf => ?_)
        refine g_goto (tgt := 7) cx dX12_laysRow_86 rfl ?_
        refine g_sub [1, 2, 0] rfl ?_
        exact ih _ _ hf
  rw [F_X12_laysRow] at hf
  refine g_aln cx 0 dX12_laysRow_0 rfl ?_
  refine g_iln cx 1 dX12_laysRow_1 rfl ?_
  refine mp_many cx hf dX12_laysRow_2 (fun s_o_14 hf => ?_)
  refine g_ic cx dX12_laysRow_5 k_ic0 ?_
  refine g_isn cx (L2 := fun v2_15 => [(2, .int v2_15), (0, .ref (o 0)), (1, .int x1)]) hf dX12_laysRow_6 (Nat.le_of_ble_eq_true rfl) (fun _ => rfl) (fun v2_15 hf => ?_)
  refine g_sub [1, 2, 0] rfl ?_
  exact h7 fu _ _ hf
def tX12_shortest_8 : List Nat := 0 :: 242 :: 54 :: 6 :: 167 :: 255 :: 188 :: 132 :: 5 :: 1 :: 167 :: 255 :: 163 :: 16 :: 247 :: 172 :: []
def tX12_shortest_7 : List Nat := 180 :: 0 :: 62 :: 21 :: 4 :: 46 :: 167 :: 0 :: 5 :: 16 :: 251 :: 172 :: 42 :: 21 :: 5 :: 182 :: tX12_shortest_8
def tX12_shortest_6 : List Nat := 156 :: 0 :: 8 :: 21 :: 5 :: 167 :: 0 :: 22 :: 21 :: 4 :: 21 :: 5 :: 162 :: 0 :: 13 :: 42 :: tX12_shortest_7
def tX12_shortest_5 : List Nat := 153 :: 0 :: 44 :: 29 :: 42 :: 182 :: 0 :: 217 :: 2 :: 130 :: 126 :: 154 :: 0 :: 33 :: 21 :: 4 :: tX12_shortest_6
def tX12_shortest_4 : List Nat := 21 :: 6 :: 153 :: 0 :: 69 :: 42 :: 21 :: 5 :: 182 :: 0 :: 239 :: 42 :: 27 :: 182 :: 0 :: 214 :: tX12_shortest_5
def tX12_shortest_3 : List Nat := 180 :: 0 :: 172 :: 163 :: 0 :: 90 :: 42 :: 3 :: 21 :: 5 :: 182 :: 0 :: 236 :: 4 :: 54 :: 6 :: tX12_shortest_4
def tX12_shortest_2 : List Nat := 154 :: 0 :: 5 :: 2 :: 172 :: 42 :: 28 :: 182 :: 0 :: 201 :: 4 :: 54 :: 5 :: 21 :: 5 :: 42 :: tX12_shortest_3
def tX12_shortest_1 : List Nat := 17 :: 3 :: 255 :: 184 :: 0 :: 82 :: 153 :: 0 :: 13 :: 21 :: 4 :: 2 :: 8 :: 184 :: 0 :: 82 :: tX12_shortest_2
def tX12_shortest_0 : List Nat := 42 :: 3 :: 181 :: 0 :: 78 :: 42 :: 27 :: 28 :: 182 :: 0 :: 178 :: 153 :: 0 :: 24 :: 29 :: 3 :: tX12_shortest_1
theorem tX12_shortestf_0 : (cX12_shortest.data.toList.map UInt8.toNat).drop 0 = tX12_shortest_0 := by decide +kernel
theorem tX12_shortestf_1 : (cX12_shortest.data.toList.map UInt8.toNat).drop 16 = tX12_shortest_1 := fd_next (k := 0) tX12_shortestf_0 rfl
theorem tX12_shortestf_2 : (cX12_shortest.data.toList.map UInt8.toNat).drop 32 = tX12_shortest_2 := fd_next (k := 16) tX12_shortestf_1 rfl
theorem tX12_shortestf_3 : (cX12_shortest.data.toList.map UInt8.toNat).drop 48 = tX12_shortest_3 := fd_next (k := 32) tX12_shortestf_2 rfl
theorem tX12_shortestf_4 : (cX12_shortest.data.toList.map UInt8.toNat).drop 64 = tX12_shortest_4 := fd_next (k := 48) tX12_shortestf_3 rfl
theorem tX12_shortestf_5 : (cX12_shortest.data.toList.map UInt8.toNat).drop 80 = tX12_shortest_5 := fd_next (k := 64) tX12_shortestf_4 rfl
theorem tX12_shortestf_6 : (cX12_shortest.data.toList.map UInt8.toNat).drop 96 = tX12_shortest_6 := fd_next (k := 80) tX12_shortestf_5 rfl
theorem tX12_shortestf_7 : (cX12_shortest.data.toList.map UInt8.toNat).drop 112 = tX12_shortest_7 := fd_next (k := 96) tX12_shortestf_6 rfl
theorem tX12_shortestf_8 : (cX12_shortest.data.toList.map UInt8.toNat).drop 128 = tX12_shortest_8 := fd_next (k := 112) tX12_shortestf_7 rfl
theorem dX12_shortest_0 : decode cX12_shortest 0 = .ok (.aload_n 0, 1) := dk_42 (fdB_of (k := 0) tX12_shortestf_0 0 42 rfl)
theorem dX12_shortest_1 : decode cX12_shortest 1 = .ok (.iconst 0, 1) := dk_3 (fdB_of (k := 0) tX12_shortestf_0 1 3 rfl)
theorem dX12_shortest_2 : decode cX12_shortest 2 = .ok (.putfield 78, 3) := dk_181 (fdB_of (k := 0) tX12_shortestf_0 2 181 rfl) (fdB_of (k := 0) tX12_shortestf_0 3 0 rfl) (fdB_of (k := 0) tX12_shortestf_0 4 78 rfl)
theorem dX12_shortest_5 : decode cX12_shortest 5 = .ok (.aload_n 0, 1) := dk_42 (fdB_of (k := 0) tX12_shortestf_0 5 42 rfl)
theorem dX12_shortest_6 : decode cX12_shortest 6 = .ok (.iload_n 1, 1) := dk_27 (fdB_of (k := 0) tX12_shortestf_0 6 27 rfl)
theorem dX12_shortest_7 : decode cX12_shortest 7 = .ok (.iload_n 2, 1) := dk_28 (fdB_of (k := 0) tX12_shortestf_0 7 28 rfl)
theorem dX12_shortest_8 : decode cX12_shortest 8 = .ok (.invokevirtual 178, 3) := dk_182 (fdB_of (k := 0) tX12_shortestf_0 8 182 rfl) (fdB_of (k := 0) tX12_shortestf_0 9 0 rfl) (fdB_of (k := 0) tX12_shortestf_0 10 178 rfl)
theorem dX12_shortest_11 : decode cX12_shortest 11 = .ok (.ifCond .eq 24, 3) := dk_153 (fdB_of (k := 0) tX12_shortestf_0 11 153 rfl) (fdB_of (k := 0) tX12_shortestf_0 12 0 rfl) (fdB_of (k := 0) tX12_shortestf_0 13 24 rfl) (by decide +kernel)
theorem dX12_shortest_14 : decode cX12_shortest 14 = .ok (.iload_n 3, 1) := dk_29 (fdB_of (k := 0) tX12_shortestf_0 14 29 rfl)
theorem dX12_shortest_15 : decode cX12_shortest 15 = .ok (.iconst 0, 1) := dk_3 (fdB_of (k := 0) tX12_shortestf_0 15 3 rfl)
theorem dX12_shortest_16 : decode cX12_shortest 16 = .ok (.sipush 1023, 3) := dk_17 (fdB_of (k := 16) tX12_shortestf_1 0 17 rfl) (fdB_of (k := 16) tX12_shortestf_1 1 3 rfl) (fdB_of (k := 16) tX12_shortestf_1 2 255 rfl) (by decide +kernel)
theorem dX12_shortest_19 : decode cX12_shortest 19 = .ok (.invokestatic 82, 3) := dk_184 (fdB_of (k := 16) tX12_shortestf_1 3 184 rfl) (fdB_of (k := 16) tX12_shortestf_1 4 0 rfl) (fdB_of (k := 16) tX12_shortestf_1 5 82 rfl)
theorem dX12_shortest_22 : decode cX12_shortest 22 = .ok (.ifCond .eq 13, 3) := dk_153 (fdB_of (k := 16) tX12_shortestf_1 6 153 rfl) (fdB_of (k := 16) tX12_shortestf_1 7 0 rfl) (fdB_of (k := 16) tX12_shortestf_1 8 13 rfl) (by decide +kernel)
theorem dX12_shortest_25 : decode cX12_shortest 25 = .ok (.iload 4, 2) := dk_21 (fdB_of (k := 16) tX12_shortestf_1 9 21 rfl) (fdB_of (k := 16) tX12_shortestf_1 10 4 rfl)
theorem dX12_shortest_27 : decode cX12_shortest 27 = .ok (.iconst (-1), 1) := dk_2 (fdB_of (k := 16) tX12_shortestf_1 11 2 rfl)
theorem dX12_shortest_28 : decode cX12_shortest 28 = .ok (.iconst 5, 1) := dk_8 (fdB_of (k := 16) tX12_shortestf_1 12 8 rfl)
theorem dX12_shortest_29 : decode cX12_shortest 29 = .ok (.invokestatic 82, 3) := dk_184 (fdB_of (k := 16) tX12_shortestf_1 13 184 rfl) (fdB_of (k := 16) tX12_shortestf_1 14 0 rfl) (fdB_of (k := 16) tX12_shortestf_1 15 82 rfl)
theorem dX12_shortest_32 : decode cX12_shortest 32 = .ok (.ifCond .ne 5, 3) := dk_154 (fdB_of (k := 32) tX12_shortestf_2 0 154 rfl) (fdB_of (k := 32) tX12_shortestf_2 1 0 rfl) (fdB_of (k := 32) tX12_shortestf_2 2 5 rfl) (by decide +kernel)
theorem dX12_shortest_35 : decode cX12_shortest 35 = .ok (.iconst (-1), 1) := dk_2 (fdB_of (k := 32) tX12_shortestf_2 3 2 rfl)
theorem dX12_shortest_36 : decode cX12_shortest 36 = .ok (.ireturn, 1) := dk_172 (fdB_of (k := 32) tX12_shortestf_2 4 172 rfl)
theorem dX12_shortest_37 : decode cX12_shortest 37 = .ok (.aload_n 0, 1) := dk_42 (fdB_of (k := 32) tX12_shortestf_2 5 42 rfl)
theorem dX12_shortest_38 : decode cX12_shortest 38 = .ok (.iload_n 2, 1) := dk_28 (fdB_of (k := 32) tX12_shortestf_2 6 28 rfl)
theorem dX12_shortest_39 : decode cX12_shortest 39 = .ok (.invokevirtual 201, 3) := dk_182 (fdB_of (k := 32) tX12_shortestf_2 7 182 rfl) (fdB_of (k := 32) tX12_shortestf_2 8 0 rfl) (fdB_of (k := 32) tX12_shortestf_2 9 201 rfl)
theorem dX12_shortest_42 : decode cX12_shortest 42 = .ok (.iconst 1, 1) := dk_4 (fdB_of (k := 32) tX12_shortestf_2 10 4 rfl)
theorem dX12_shortest_43 : decode cX12_shortest 43 = .ok (.istore 5, 2) := dk_54 (fdB_of (k := 32) tX12_shortestf_2 11 54 rfl) (fdB_of (k := 32) tX12_shortestf_2 12 5 rfl)
theorem dX12_shortest_45 : decode cX12_shortest 45 = .ok (.iload 5, 2) := dk_21 (fdB_of (k := 32) tX12_shortestf_2 13 21 rfl) (fdB_of (k := 32) tX12_shortestf_2 14 5 rfl)
theorem dX12_shortest_47 : decode cX12_shortest 47 = .ok (.aload_n 0, 1) := dk_42 (fdB_of (k := 32) tX12_shortestf_2 15 42 rfl)
theorem dX12_shortest_48 : decode cX12_shortest 48 = .ok (.getfield 172, 3) := dk_180 (fdB_of (k := 48) tX12_shortestf_3 0 180 rfl) (fdB_of (k := 48) tX12_shortestf_3 1 0 rfl) (fdB_of (k := 48) tX12_shortestf_3 2 172 rfl)
theorem dX12_shortest_51 : decode cX12_shortest 51 = .ok (.if_icmp .gt 90, 3) := dk_163 (fdB_of (k := 48) tX12_shortestf_3 3 163 rfl) (fdB_of (k := 48) tX12_shortestf_3 4 0 rfl) (fdB_of (k := 48) tX12_shortestf_3 5 90 rfl) (by decide +kernel)
theorem dX12_shortest_54 : decode cX12_shortest 54 = .ok (.aload_n 0, 1) := dk_42 (fdB_of (k := 48) tX12_shortestf_3 6 42 rfl)
theorem dX12_shortest_55 : decode cX12_shortest 55 = .ok (.iconst 0, 1) := dk_3 (fdB_of (k := 48) tX12_shortestf_3 7 3 rfl)
theorem dX12_shortest_56 : decode cX12_shortest 56 = .ok (.iload 5, 2) := dk_21 (fdB_of (k := 48) tX12_shortestf_3 8 21 rfl) (fdB_of (k := 48) tX12_shortestf_3 9 5 rfl)
theorem dX12_shortest_58 : decode cX12_shortest 58 = .ok (.invokevirtual 236, 3) := dk_182 (fdB_of (k := 48) tX12_shortestf_3 10 182 rfl) (fdB_of (k := 48) tX12_shortestf_3 11 0 rfl) (fdB_of (k := 48) tX12_shortestf_3 12 236 rfl)
theorem dX12_shortest_61 : decode cX12_shortest 61 = .ok (.iconst 1, 1) := dk_4 (fdB_of (k := 48) tX12_shortestf_3 13 4 rfl)
theorem dX12_shortest_62 : decode cX12_shortest 62 = .ok (.istore 6, 2) := dk_54 (fdB_of (k := 48) tX12_shortestf_3 14 54 rfl) (fdB_of (k := 48) tX12_shortestf_3 15 6 rfl)
theorem dX12_shortest_64 : decode cX12_shortest 64 = .ok (.iload 6, 2) := dk_21 (fdB_of (k := 64) tX12_shortestf_4 0 21 rfl) (fdB_of (k := 64) tX12_shortestf_4 1 6 rfl)
theorem dX12_shortest_66 : decode cX12_shortest 66 = .ok (.ifCond .eq 69, 3) := dk_153 (fdB_of (k := 64) tX12_shortestf_4 2 153 rfl) (fdB_of (k := 64) tX12_shortestf_4 3 0 rfl) (fdB_of (k := 64) tX12_shortestf_4 4 69 rfl) (by decide +kernel)
theorem dX12_shortest_69 : decode cX12_shortest 69 = .ok (.aload_n 0, 1) := dk_42 (fdB_of (k := 64) tX12_shortestf_4 5 42 rfl)
theorem dX12_shortest_70 : decode cX12_shortest 70 = .ok (.iload 5, 2) := dk_21 (fdB_of (k := 64) tX12_shortestf_4 6 21 rfl) (fdB_of (k := 64) tX12_shortestf_4 7 5 rfl)
theorem dX12_shortest_72 : decode cX12_shortest 72 = .ok (.invokevirtual 239, 3) := dk_182 (fdB_of (k := 64) tX12_shortestf_4 8 182 rfl) (fdB_of (k := 64) tX12_shortestf_4 9 0 rfl) (fdB_of (k := 64) tX12_shortestf_4 10 239 rfl)
theorem dX12_shortest_75 : decode cX12_shortest 75 = .ok (.aload_n 0, 1) := dk_42 (fdB_of (k := 64) tX12_shortestf_4 11 42 rfl)
theorem dX12_shortest_76 : decode cX12_shortest 76 = .ok (.iload_n 1, 1) := dk_27 (fdB_of (k := 64) tX12_shortestf_4 12 27 rfl)
theorem dX12_shortest_77 : decode cX12_shortest 77 = .ok (.invokevirtual 214, 3) := dk_182 (fdB_of (k := 64) tX12_shortestf_4 13 182 rfl) (fdB_of (k := 64) tX12_shortestf_4 14 0 rfl) (fdB_of (k := 64) tX12_shortestf_4 15 214 rfl)
theorem dX12_shortest_80 : decode cX12_shortest 80 = .ok (.ifCond .eq 44, 3) := dk_153 (fdB_of (k := 80) tX12_shortestf_5 0 153 rfl) (fdB_of (k := 80) tX12_shortestf_5 1 0 rfl) (fdB_of (k := 80) tX12_shortestf_5 2 44 rfl) (by decide +kernel)
theorem dX12_shortest_83 : decode cX12_shortest 83 = .ok (.iload_n 3, 1) := dk_29 (fdB_of (k := 80) tX12_shortestf_5 3 29 rfl)
theorem dX12_shortest_84 : decode cX12_shortest 84 = .ok (.aload_n 0, 1) := dk_42 (fdB_of (k := 80) tX12_shortestf_5 4 42 rfl)
theorem dX12_shortest_85 : decode cX12_shortest 85 = .ok (.invokevirtual 217, 3) := dk_182 (fdB_of (k := 80) tX12_shortestf_5 5 182 rfl) (fdB_of (k := 80) tX12_shortestf_5 6 0 rfl) (fdB_of (k := 80) tX12_shortestf_5 7 217 rfl)
theorem dX12_shortest_88 : decode cX12_shortest 88 = .ok (.iconst (-1), 1) := dk_2 (fdB_of (k := 80) tX12_shortestf_5 8 2 rfl)
theorem dX12_shortest_89 : decode cX12_shortest 89 = .ok (.ixor, 1) := dk_130 (fdB_of (k := 80) tX12_shortestf_5 9 130 rfl)
theorem dX12_shortest_90 : decode cX12_shortest 90 = .ok (.iand, 1) := dk_126 (fdB_of (k := 80) tX12_shortestf_5 10 126 rfl)
theorem dX12_shortest_91 : decode cX12_shortest 91 = .ok (.ifCond .ne 33, 3) := dk_154 (fdB_of (k := 80) tX12_shortestf_5 11 154 rfl) (fdB_of (k := 80) tX12_shortestf_5 12 0 rfl) (fdB_of (k := 80) tX12_shortestf_5 13 33 rfl) (by decide +kernel)
theorem dX12_shortest_94 : decode cX12_shortest 94 = .ok (.iload 4, 2) := dk_21 (fdB_of (k := 80) tX12_shortestf_5 14 21 rfl) (fdB_of (k := 80) tX12_shortestf_5 15 4 rfl)
theorem dX12_shortest_96 : decode cX12_shortest 96 = .ok (.ifCond .ge 8, 3) := dk_156 (fdB_of (k := 96) tX12_shortestf_6 0 156 rfl) (fdB_of (k := 96) tX12_shortestf_6 1 0 rfl) (fdB_of (k := 96) tX12_shortestf_6 2 8 rfl) (by decide +kernel)
theorem dX12_shortest_99 : decode cX12_shortest 99 = .ok (.iload 5, 2) := dk_21 (fdB_of (k := 96) tX12_shortestf_6 3 21 rfl) (fdB_of (k := 96) tX12_shortestf_6 4 5 rfl)
theorem dX12_shortest_101 : decode cX12_shortest 101 = .ok (.goto 22, 3) := dk_167 (fdB_of (k := 96) tX12_shortestf_6 5 167 rfl) (fdB_of (k := 96) tX12_shortestf_6 6 0 rfl) (fdB_of (k := 96) tX12_shortestf_6 7 22 rfl) (by decide +kernel)
theorem dX12_shortest_104 : decode cX12_shortest 104 = .ok (.iload 4, 2) := dk_21 (fdB_of (k := 96) tX12_shortestf_6 8 21 rfl) (fdB_of (k := 96) tX12_shortestf_6 9 4 rfl)
theorem dX12_shortest_106 : decode cX12_shortest 106 = .ok (.iload 5, 2) := dk_21 (fdB_of (k := 96) tX12_shortestf_6 10 21 rfl) (fdB_of (k := 96) tX12_shortestf_6 11 5 rfl)
theorem dX12_shortest_108 : decode cX12_shortest 108 = .ok (.if_icmp .ge 13, 3) := dk_162 (fdB_of (k := 96) tX12_shortestf_6 12 162 rfl) (fdB_of (k := 96) tX12_shortestf_6 13 0 rfl) (fdB_of (k := 96) tX12_shortestf_6 14 13 rfl) (by decide +kernel)
theorem dX12_shortest_111 : decode cX12_shortest 111 = .ok (.aload_n 0, 1) := dk_42 (fdB_of (k := 96) tX12_shortestf_6 15 42 rfl)
theorem dX12_shortest_112 : decode cX12_shortest 112 = .ok (.getfield 62, 3) := dk_180 (fdB_of (k := 112) tX12_shortestf_7 0 180 rfl) (fdB_of (k := 112) tX12_shortestf_7 1 0 rfl) (fdB_of (k := 112) tX12_shortestf_7 2 62 rfl)
theorem dX12_shortest_115 : decode cX12_shortest 115 = .ok (.iload 4, 2) := dk_21 (fdB_of (k := 112) tX12_shortestf_7 3 21 rfl) (fdB_of (k := 112) tX12_shortestf_7 4 4 rfl)
theorem dX12_shortest_117 : decode cX12_shortest 117 = .ok (.iaload, 1) := dk_46 (fdB_of (k := 112) tX12_shortestf_7 5 46 rfl)
theorem dX12_shortest_118 : decode cX12_shortest 118 = .ok (.goto 5, 3) := dk_167 (fdB_of (k := 112) tX12_shortestf_7 6 167 rfl) (fdB_of (k := 112) tX12_shortestf_7 7 0 rfl) (fdB_of (k := 112) tX12_shortestf_7 8 5 rfl) (by decide +kernel)
theorem dX12_shortest_121 : decode cX12_shortest 121 = .ok (.bipush (-5), 2) := dk_16 (fdB_of (k := 112) tX12_shortestf_7 9 16 rfl) (fdB_of (k := 112) tX12_shortestf_7 10 251 rfl) (by decide +kernel)
theorem dX12_shortest_123 : decode cX12_shortest 123 = .ok (.ireturn, 1) := dk_172 (fdB_of (k := 112) tX12_shortestf_7 11 172 rfl)
theorem dX12_shortest_124 : decode cX12_shortest 124 = .ok (.aload_n 0, 1) := dk_42 (fdB_of (k := 112) tX12_shortestf_7 12 42 rfl)
theorem dX12_shortest_125 : decode cX12_shortest 125 = .ok (.iload 5, 2) := dk_21 (fdB_of (k := 112) tX12_shortestf_7 13 21 rfl) (fdB_of (k := 112) tX12_shortestf_7 14 5 rfl)
theorem dX12_shortest_127 : decode cX12_shortest 127 = .ok (.invokevirtual 242, 3) := dk_182 (fdB_of (k := 112) tX12_shortestf_7 15 182 rfl) (fdB_of (k := 128) tX12_shortestf_8 0 0 rfl) (fdB_of (k := 128) tX12_shortestf_8 1 242 rfl)
theorem dX12_shortest_130 : decode cX12_shortest 130 = .ok (.istore 6, 2) := dk_54 (fdB_of (k := 128) tX12_shortestf_8 2 54 rfl) (fdB_of (k := 128) tX12_shortestf_8 3 6 rfl)
theorem dX12_shortest_132 : decode cX12_shortest 132 = .ok (.goto (-68), 3) := dk_167 (fdB_of (k := 128) tX12_shortestf_8 4 167 rfl) (fdB_of (k := 128) tX12_shortestf_8 5 255 rfl) (fdB_of (k := 128) tX12_shortestf_8 6 188 rfl) (by decide +kernel)
theorem dX12_shortest_135 : decode cX12_shortest 135 = .ok (.iinc 5 1, 3) := dk_132 (fdB_of (k := 128) tX12_shortestf_8 7 132 rfl) (fdB_of (k := 128) tX12_shortestf_8 8 5 rfl) (fdB_of (k := 128) tX12_shortestf_8 9 1 rfl) (by decide +kernel)
theorem dX12_shortest_138 : decode cX12_shortest 138 = .ok (.goto (-93), 3) := dk_167 (fdB_of (k := 128) tX12_shortestf_8 10 167 rfl) (fdB_of (k := 128) tX12_shortestf_8 11 255 rfl) (fdB_of (k := 128) tX12_shortestf_8 12 163 rfl) (by decide +kernel)
theorem dX12_shortest_141 : decode cX12_shortest 141 = .ok (.bipush (-9), 2) := dk_16 (fdB_of (k := 128) tX12_shortestf_8 13 16 rfl) (fdB_of (k := 128) tX12_shortestf_8 14 247 rfl) (by decide +kernel)
theorem dX12_shortest_143 : decode cX12_shortest 143 = .ok (.ireturn, 1) := dk_172 (fdB_of (k := 128) tX12_shortestf_8 15 172 rfl)

theorem q0_58 : Cond.selects RX12 yX12_laysRow yX12_laysRow ∈ TT := tq0 58 rfl rfl
theorem q0_59 : Cond.selects RX12 yX12_goesOn yX12_goesOn ∈ TT := tq0 59 rfl rfl
theorem q6_66 : Cond.methodLink RX12 239 yX12_laysRow ∈ TT := tq6 66 rfl rfl
theorem q6_68 : Cond.instanceMethod yX12_laysRow ∈ TT := tq6 68 rfl rfl
theorem q6_69 : Cond.code yX12_laysRow cX12_laysRow 3 none ∈ TT := tq6 69 rfl rfl
theorem q6_70 : Cond.methodLink RX12 242 yX12_goesOn ∈ TT := tq6 70 rfl rfl
theorem q6_72 : Cond.instanceMethod yX12_goesOn ∈ TT := tq6 72 rfl rfl
theorem q6_73 : Cond.code yX12_goesOn cX12_goesOn 4 (some .boolean) ∈ TT := tq6 73 rfl rfl
theorem lk_RX12_242 : vlk RX12 242 yX12_goesOn cX12_goesOn 4 (some .boolean) 1 := ⟨List.forall_mem_cons.mpr ⟨q6_70, List.forall_mem_cons.mpr ⟨q6_72, List.forall_mem_cons.mpr ⟨q0_59, List.forall_mem_cons.mpr ⟨q1_12, fun _ h => absurd h List.not_mem_nil⟩⟩⟩⟩, q6_73, by decide, by decide, by decide +kernel⟩
theorem lk_RX12_239 : vlk RX12 239 yX12_laysRow cX12_laysRow 3 none 1 := ⟨List.forall_mem_cons.mpr ⟨q6_66, List.forall_mem_cons.mpr ⟨q6_68, List.forall_mem_cons.mpr ⟨q0_58, List.forall_mem_cons.mpr ⟨q1_12, fun _ h => absurd h List.not_mem_nil⟩⟩⟩⟩, q6_69, by decide, by decide, by decide +kernel⟩
def F_X12_shortest_b124 (x1 : Int32) (x2 : Int32) (x3 : Int32) (x4 : Int32) (K45 : Int32 → SM → Option (Int32 × SM)) (K64 : Int32 → Int32 → SM → Option (Int32 × SM)) (v5 : Int32) (zs_o : SM) : Option (Int32 × SM) := (F_X12_goesOn zs_o v5).bind fun q_1 => nm q_1.1 fun v6_2 => K64 v5 v6_2 q_1.2
def F_X12_shortest_b64 (x1 : Int32) (x2 : Int32) (x3 : Int32) (x4 : Int32) (K45 : Int32 → SM → Option (Int32 × SM)) : Nat → Int32 → Int32 → SM → Option (Int32 × SM)
  | 0, _, _, _ => none
  | n + 1, v5, v6, zs_o => (if v6 = 0 then nm (v5 + 1) fun v5_3 => K45 v5_3 zs_o else (F_X12_laysRow zs_o v5).bind fun q_4 => (F_X12_isLaw q_4 x1).bind fun q_5 => (if q_5.1 = 0 then F_X12_shortest_b124 x1 x2 x3 x4 K45 (F_X12_shortest_b64 x1 x2 x3 x4 K45 n) v5 q_5.2 else (F_X12_boundBy q_5.2).bind fun q_6 => (if (x3 &&& (q_6 ^^^ (-1))) = 0 then (if 0 ≤ x4 then (if v5 ≤ x4 then some ((-5), q_5.2) else (aget 6 (mA q_5.2 33) x4).bind fun e_7 => some (e_7, q_5.2)) else some (v5, q_5.2)) else F_X12_shortest_b124 x1 x2 x3 x4 K45 (F_X12_shortest_b64 x1 x2 x3 x4 K45 n) v5 q_5.2)))
def F_X12_shortest_b45 (x1 : Int32) (x2 : Int32) (x3 : Int32) (x4 : Int32) : Nat → Int32 → SM → Option (Int32 × SM)
  | 0, _, _ => none
  | n + 1, v5, zs_o => (if (mI zs_o 15) < v5 then some ((-9), zs_o) else (F_X12_fills zs_o 0 v5).bind fun q_8 => nm 1 fun v6_9 => F_X12_shortest_b64 x1 x2 x3 x4 (F_X12_shortest_b45 x1 x2 x3 x4 n) fu v5 v6_9 q_8)
def F_X12_shortest (s_o : SM) (x1 : Int32) (x2 : Int32) (x3 : Int32) (x4 : Int32) : Option (Int32 × SM) := nm (mIs s_o 0 0) fun s_o_10 => (F_X12_isForm s_o_10 x1 x2).bind fun q_11 => (if q_11 = 0 then some ((-1), s_o_10) else (F_X12_in x3 0 1023).bind fun q_12 => (if q_12 = 0 then some ((-1), s_o_10) else (F_X12_in x4 (-1) 5).bind fun q_13 => (if q_13 = 0 then some ((-1), s_o_10) else (F_X12_hears s_o_10 x2).bind fun q_14 => nm 1 fun v5_15 => F_X12_shortest_b45 x1 x2 x3 x4 fu v5_15 q_14)))

abbrev rm_X12_shortest : Room := { frames := 4, cells := 0, slots := 0, locals := 93 }
set_option maxHeartbeats 4000000 in
set_option maxRecDepth 100000 in
theorem c_X12_shortest (l : Launch) (D : gG) (cB cI cJ cZ : ClassId) (o : Nat → Nat) (s_o : SM) (x1 : Int32) (x2 : Int32) (x3 : Int32) (x4 : Int32) (r : Int32 × SM) (hf : F_X12_shortest s_o x1 x2 x3 x4 = some r) : gM l D (tyL cB cI cJ cZ) yX12_shortest cX12_shortest 7 (some .int) rm_X12_shortest [.ref (o 0), .int x1, .int x2, .int x3, .int x4] (wX12 o cB cI cJ cZ s_o) (some (.int r.1)) (wX12 o cB cI cJ cZ r.2) := by
  refine met_of (by decide) (Nat.le_of_ble_eq_true rfl) ?_
  intro p e s m args below meth c A cx hr hA
  show gW p l e rm_X12_shortest s m args below meth c D A 7 _ 0 0 _ [(0, .ref (o 0)), (1, .int x1), (2, .int x2), (3, .int x3), (4, .int x4)] 0 []
  have h124 : ∀ (K45 : Int32 → SM → Option (Int32 × SM)), (∀ (v5 : Int32) (zs_o : SM), K45 v5 zs_o = some r → gW p l e rm_X12_shortest s m args below meth c D A 7 (MQ below (QM D (tyL cB cI cJ cZ) (some (.int r.1)) (wX12 o cB cI cJ cZ s_o) (wX12 o cB cI cJ cZ r.2) s.heap.size) args s 0 0 A) 0 0 (wX12 o cB cI cJ cZ zs_o) [(0, .ref (o 0)), (1, .int x1), (3, .int x3), (4, .int x4), (5, .int v5)] 45 []) → ∀ (K64 : Int32 → Int32 → SM → Option (Int32 × SM)), (∀ (v5 : Int32) (v6 : Int32) (zs_o : SM), K64 v5 v6 zs_o = some r → gW p l e rm_X12_shortest s m args below meth c D A 7 (MQ below (QM D (tyL cB cI cJ cZ) (some (.int r.1)) (wX12 o cB cI cJ cZ s_o) (wX12 o cB cI cJ cZ r.2) s.heap.size) args s 0 0 A) 0 0 (wX12 o cB cI cJ cZ zs_o) [(0, .ref (o 0)), (1, .int x1), (3, .int x3), (4, .int x4), (5, .int v5), (6, .int v6)] 64 []) → ∀ (v5 : Int32) (zs_o : SM), F_X12_shortest_b124 x1 x2 x3 x4 K45 K64 v5 zs_o = some r → gW p l e rm_X12_shortest s m args below meth c D A 7 (MQ below (QM D (tyL cB cI cJ cZ) (some (.int r.1)) (wX12 o cB cI cJ cZ s_o) (wX12 o cB cI cJ cZ r.2) s.heap.size) args s 0 0 A) 0 0 (wX12 o cB cI cJ cZ zs_o) [(0, .ref (o 0)), (1, .int x1), (3, .int x3), (4, .int x4), (5, .int v5)] 124 [] := by
    intro K45 kh45 K64 kh64 v5 zs_o hf
    rw [F_X12_shortest_b124] at hf
    refine g_aln cx 0 dX12_shortest_124 rfl ?_
    refine g_il cx 4 dX12_shortest_125 rfl ?_
    refine ob hf (fun q_1 hq_1 hf => ?_)
    refine g_callVFi cx lk_RX12_242 (c_X12_goesOn l D cB cI cJ cZ o zs_o v5 q_1 hq_1) rfl (ci := 10) (q1 := 0) rfl rfl rfl (Nat.le_of_ble_eq_true rfl) ⟨rfl, rfl, Nat.le_of_ble_eq_true rfl, Nat.le_of_ble_eq_true rfl⟩ dX12_shortest_127 ?_
    refine g_is cx (L2 := fun v6_2 => [(6, .int v6_2), (0, .ref (o 0)), (1, .int x1), (3, .int x3), (4, .int x4), (5, .int v5)]) hf dX12_shortest_130 (Nat.le_of_ble_eq_true rfl) (fun _ => rfl) (fun v6_2 hf => ?_)
    refine g_goto (tgt := 64) cx dX12_shortest_132 rfl ?_
    refine g_sub [1, 2, 3, 4, 5, 0] rfl ?_
    exact kh64 _ _ _ hf
  have h64 : ∀ (K45 : Int32 → SM → Option (Int32 × SM)), (∀ (v5 : Int32) (zs_o : SM), K45 v5 zs_o = some r → gW p l e rm_X12_shortest s m args below meth c D A 7 (MQ below (QM D (tyL cB cI cJ cZ) (some (.int r.1)) (wX12 o cB cI cJ cZ s_o) (wX12 o cB cI cJ cZ r.2) s.heap.size) args s 0 0 A) 0 0 (wX12 o cB cI cJ cZ zs_o) [(0, .ref (o 0)), (1, .int x1), (3, .int x3), (4, .int x4), (5, .int v5)] 45 []) → ∀ (n : Nat) (v5 : Int32) (v6 : Int32) (zs_o : SM), F_X12_shortest_b64 x1 x2 x3 x4 K45 n v5 v6 zs_o = some r → gW p l e rm_X12_shortest s m args below meth c D A 7 (MQ below (QM D (tyL cB cI cJ cZ) (some (.int r.1)) (wX12 o cB cI cJ cZ s_o) (wX12 o cB cI cJ cZ r.2) s.heap.size) args s 0 0 A) 0 0 (wX12 o cB cI cJ cZ zs_o) [(0, .ref (o 0)), (1, .int x1), (3, .int x3), (4, .int x4), (5, .int v5), (6, .int v6)] 64 [] := by
    intro K45 kh45 n
    induction n with
    | zero => intro v5 v6 zs_o hf; rw [F_X12_shortest_b64] at hf; cases hf
    | succ n ih =>
      intro v5 v6 zs_o hf
      rw [F_X12_shortest_b64] at hf
      refine g_il cx 5 dX12_shortest_64 rfl ?_
      refine g_if_eq (tgt := 135) cx hf dX12_shortest_66 rfl (fun hf => ?_) (fun hf => ?_)
      · refine g_inc cx (L2 := fun v5_3 => [(5, .int v5_3), (0, .ref (o 0)), (1, .int x1), (3, .int x3), (4, .int x4), (6, .int v6)]) 4 hf dX12_shortest_135 rfl (k_inc1 _) (Nat.le_of_ble_eq_true rfl) (fun _ => rfl) (fun v5_3 hf => ?_)
        refine g_goto (tgt := 45) cx dX12_shortest_138 rfl ?_
        refine g_sub [1, 2, 3, 4, 0] rfl ?_
        exact kh45 _ _ hf
      · refine g_aln cx 0 dX12_shortest_69 rfl ?_
        refine g_il cx 4 dX12_shortest_70 rfl ?_
        refine ob hf (fun q_4 hq_4 hf => ?_)
        refine g_callVFv cx lk_RX12_239 (c_X12_laysRow l D cB cI cJ cZ o zs_o v5 q_4 hq_4) rfl (ci := 10) (q1 := 0) rfl rfl rfl (Nat.le_of_ble_eq_true rfl) ⟨rfl, rfl, Nat.le_of_ble_eq_true rfl, Nat.le_of_ble_eq_true rfl⟩ dX12_shortest_72 ?_
        refine g_aln cx 0 dX12_shortest_75 rfl ?_
        refine g_iln cx 1 dX12_shortest_76 rfl ?_
        refine ob hf (fun q_5 hq_5 hf => ?_)
        refine g_callVFi cx lk_RX12_214 (c_X12_isLaw l D cB cI cJ cZ o q_4 x1 q_5 hq_5) rfl (ci := 10) (q1 := 0) rfl rfl rfl (Nat.le_of_ble_eq_true rfl) ⟨rfl, rfl, Nat.le_of_ble_eq_true rfl, Nat.le_of_ble_eq_true rfl⟩ dX12_shortest_77 ?_
        refine g_if_eq (tgt := 124) cx hf dX12_shortest_80 rfl (fun hf => ?_) (fun hf => ?_)
        · refine g_sub [0, 1, 2, 3, 4] rfl ?_
          exact h124 _ kh45 _ ih _ _ hf
        · refine g_iln cx 2 dX12_shortest_83 rfl ?_
          refine g_aln cx 0 dX12_shortest_84 rfl ?_
          refine ob hf (fun q_6 hq_6 hf => ?_)
          refine g_callVFi cx lk_RX12_217 (c_X12_boundBy l D cB cI cJ cZ o q_5.2 q_6 hq_6) rfl (ci := 10) (q1 := 0) rfl rfl rfl (Nat.le_of_ble_eq_true rfl) ⟨rfl, rfl, Nat.le_of_ble_eq_true rfl, Nat.le_of_ble_eq_true rfl⟩ dX12_shortest_85 ?_
          refine g_ic cx dX12_shortest_88 k_icm1 ?_
          refine g_ixor cx dX12_shortest_89 ?_
          refine g_iand cx dX12_shortest_90 ?_
          refine g_if_ne (tgt := 124) cx hf dX12_shortest_91 rfl (fun hf => ?_) (fun hf => ?_)
          · refine g_sub [0, 1, 2, 3, 4] rfl ?_
            exact h124 _ kh45 _ ih _ _ hf
          · refine g_il cx 3 dX12_shortest_94 rfl ?_
            refine g_if_ge (tgt := 104) cx hf dX12_shortest_96 rfl (fun hf => ?_) (fun hf => ?_)
            · refine g_il cx 3 dX12_shortest_104 rfl ?_
              refine g_il cx 4 dX12_shortest_106 rfl ?_
              refine g_ic_ge (tgt := 121) cx hf dX12_shortest_108 rfl (fun hf => ?_) (fun hf => ?_)
              · refine g_bp cx dX12_shortest_121 k_bpm5 ?_
                exact g_iret (ovf := fun (r : Int32 × SM) => (some (.int r.1))) (wf := fun (r : Int32 × SM) => (wX12 o cB cI cJ cZ r.2)) cx hA hr hf rfl rfl dX12_shortest_123
              · refine g_aln cx 0 dX12_shortest_111 rfl ?_
                refine mg_row cx dX12_shortest_112 ?_
                refine g_il cx 3 dX12_shortest_115 rfl ?_
                refine ml_row cx hf dX12_shortest_117 (fun e_7 hf => ?_)
                refine g_goto (tgt := 123) cx dX12_shortest_118 rfl ?_
                exact g_iret (ovf := fun (r : Int32 × SM) => (some (.int r.1))) (wf := fun (r : Int32 × SM) => (wX12 o cB cI cJ cZ r.2)) cx hA hr hf rfl rfl dX12_shortest_123
            · refine g_il cx 4 dX12_shortest_99 rfl ?_
              refine g_goto (tgt := 123) cx dX12_shortest_101 rfl ?_
              exact g_iret (ovf := fun (r : Int32 × SM) => (some (.int r.1))) (wf := fun (r : Int32 × SM) => (wX12 o cB cI cJ cZ r.2)) cx hA hr hf rfl rfl dX12_shortest_123
  have h45 : ∀ (n : Nat) (v5 : Int32) (zs_o : SM), F_X12_shortest_b45 x1 x2 x3 x4 n v5 zs_o = some r → gW p l e rm_X12_shortest s m args below meth c D A 7 (MQ below (QM D (tyL cB cI cJ cZ) (some (.int r.1)) (wX12 o cB cI cJ cZ s_o) (wX12 o cB cI cJ cZ r.2) s.heap.size) args s 0 0 A) 0 0 (wX12 o cB cI cJ cZ zs_o) [(0, .ref (o 0)), (1, .int x1), (3, .int x3), (4, .int x4), (5, .int v5)] 45 [] := by
    intro n
    induction n with
    | zero => intro v5 zs_o hf; rw [F_X12_shortest_b45] at hf; cases hf
    | succ n ih =>
      intro v5 zs_o hf
      rw [F_X12_shortest_b45] at hf
      refine g_il cx 4 dX12_shortest_45 rfl ?_
      refine g_aln cx 0 dX12_shortest_47 rfl ?_
      refine mg_stocks cx dX12_shortest_48 ?_
      refine g_ic_gt (tgt := 141) cx hf dX12_shortest_51 rfl (fun hf => ?_) (fun hf => ?_)
      · refine g_bp cx dX12_shortest_141 k_bpm9 ?_
        exact g_iret (ovf := fun (r : Int32 × SM) => (some (.int r.1))) (wf := fun (r : Int32 × SM) => (wX12 o cB cI cJ cZ r.2)) cx hA hr hf rfl rfl dX12_shortest_143
      · refine g_aln cx 0 dX12_shortest_54 rfl ?_
        refine g_ic cx dX12_shortest_55 k_ic0 ?_
        refine g_il cx 4 dX12_shortest_56 rfl ?_
        refine ob hf (fun q_8 hq_8 hf => ?_)
        refine g_callVFv cx lk_RX12_236 (c_X12_fills l D cB cI cJ cZ o zs_o 0 v5 q_8 hq_8) rfl (ci := 10) (q1 := 0) rfl rfl rfl (Nat.le_of_ble_eq_true rfl) ⟨rfl, rfl, Nat.le_of_ble_eq_true rfl, Nat.le_of_ble_eq_true rfl⟩ dX12_shortest_58 ?_
        refine g_ic cx dX12_shortest_61 k_ic1 ?_
        refine g_is cx (L2 := fun v6_9 => [(6, .int v6_9), (0, .ref (o 0)), (1, .int x1), (3, .int x3), (4, .int x4), (5, .int v5)]) hf dX12_shortest_62 (Nat.le_of_ble_eq_true rfl) (fun _ => rfl) (fun v6_9 hf => ?_)
        refine g_sub [1, 2, 3, 4, 5, 0] rfl ?_
        exact h64 _ ih fu _ _ _ hf
  rw [F_X12_shortest] at hf
  refine g_aln cx 0 dX12_shortest_0 rfl ?_
  refine g_ic cx dX12_shortest_1 k_ic0 ?_
  refine mp_thrown cx hf dX12_shortest_2 (fun s_o_10 hf => ?_)
  refine g_aln cx 0 dX12_shortest_5 rfl ?_
  refine g_iln cx 1 dX12_shortest_6 rfl ?_
  refine g_iln cx 2 dX12_shortest_7 rfl ?_
  refine ob hf (fun q_11 hq_11 hf => ?_)
  refine g_callVFi cx lk_RX12_178 (c_X12_isForm l D cB cI cJ cZ o s_o_10 x1 x2 q_11 hq_11) rfl (ci := 10) (q1 := 0) rfl rfl rfl (Nat.le_of_ble_eq_true rfl) ⟨rfl, rfl, Nat.le_of_ble_eq_true rfl, Nat.le_of_ble_eq_true rfl⟩ dX12_shortest_8 ?_
  refine g_if_eq (tgt := 35) cx hf dX12_shortest_11 rfl (fun hf => ?_) (fun hf => ?_)
  · refine g_ic cx dX12_shortest_35 k_icm1 ?_
    exact g_iret (ovf := fun (r : Int32 × SM) => (some (.int r.1))) (wf := fun (r : Int32 × SM) => (wX12 o cB cI cJ cZ r.2)) cx hA hr hf rfl rfl dX12_shortest_36
  · refine g_iln cx 3 dX12_shortest_14 rfl ?_
    refine g_ic cx dX12_shortest_15 k_ic0 ?_
    refine g_sp cx dX12_shortest_16 k_sp1023 ?_
    refine ob hf (fun q_12 hq_12 hf => ?_)
    refine g_callSiR cx lk_RX12_82 (c_X12_in l D cB cI cJ cZ x3 0 1023 q_12 hq_12) rfl [] rfl rfl rfl (Nat.le_of_ble_eq_true rfl) ⟨rfl, rfl, Nat.le_of_ble_eq_true rfl, Nat.le_of_ble_eq_true rfl⟩ dX12_shortest_19 ?_
    refine g_if_eq (tgt := 35) cx hf dX12_shortest_22 rfl (fun hf => ?_) (fun hf => ?_)
    · refine g_ic cx dX12_shortest_35 k_icm1 ?_
      exact g_iret (ovf := fun (r : Int32 × SM) => (some (.int r.1))) (wf := fun (r : Int32 × SM) => (wX12 o cB cI cJ cZ r.2)) cx hA hr hf rfl rfl dX12_shortest_36
    · refine g_il cx 4 dX12_shortest_25 rfl ?_
      refine g_ic cx dX12_shortest_27 k_icm1 ?_
      refine g_ic cx dX12_shortest_28 k_ic5 ?_
      refine ob hf (fun q_13 hq_13 hf => ?_)
      refine g_callSiR cx lk_RX12_82 (c_X12_in l D cB cI cJ cZ x4 (-1) 5 q_13 hq_13) rfl [] rfl rfl rfl (Nat.le_of_ble_eq_true rfl) ⟨rfl, rfl, Nat.le_of_ble_eq_true rfl, Nat.le_of_ble_eq_true rfl⟩ dX12_shortest_29 ?_
      refine g_if_ne (tgt := 37) cx hf dX12_shortest_32 rfl (fun hf => ?_) (fun hf => ?_)
      · refine g_aln cx 0 dX12_shortest_37 rfl ?_
        refine g_iln cx 2 dX12_shortest_38 rfl ?_
        refine ob hf (fun q_14 hq_14 hf => ?_)
        refine g_callVFv cx lk_RX12_201 (c_X12_hears l D cB cI cJ cZ o s_o_10 x2 q_14 hq_14) rfl (ci := 10) (q1 := 0) rfl rfl rfl (Nat.le_of_ble_eq_true rfl) ⟨rfl, rfl, Nat.le_of_ble_eq_true rfl, Nat.le_of_ble_eq_true rfl⟩ dX12_shortest_39 ?_
        refine g_ic cx dX12_shortest_42 k_ic1 ?_
        refine g_is cx (L2 := fun v5_15 => [(5, .int v5_15), (0, .ref (o 0)), (1, .int x1), (2, .int x2), (3, .int x3), (4, .int x4)]) hf dX12_shortest_43 (Nat.le_of_ble_eq_true rfl) (fun _ => rfl) (fun v5_15 hf => ?_)
        refine g_sub [1, 2, 4, 5, 0] rfl ?_
        exact h45 fu _ _ hf
      · refine g_ic cx dX12_shortest_35 k_icm1 ?_
        exact g_iret (ovf := fun (r : Int32 × SM) => (some (.int r.1))) (wf := fun (r : Int32 × SM) => (wX12 o cB cI cJ cZ r.2)) cx hA hr hf rfl rfl dX12_shortest_36
theorem dX12_both_0 : decode cX12_both 0 = .ok (.aload_n 0, 1) := by decide +kernel
theorem dX12_both_1 : decode cX12_both 1 = .ok (.iconst 0, 1) := by decide +kernel
theorem dX12_both_2 : decode cX12_both 2 = .ok (.putfield 78, 3) := by decide +kernel
theorem dX12_both_5 : decode cX12_both 5 = .ok (.aload_n 0, 1) := by decide +kernel
theorem dX12_both_6 : decode cX12_both 6 = .ok (.getfield 169, 3) := by decide +kernel
theorem dX12_both_9 : decode cX12_both 9 = .ok (.iconst 2, 1) := by decide +kernel
theorem dX12_both_10 : decode cX12_both 10 = .ok (.if_icmp .lt 12, 3) := by decide +kernel
theorem dX12_both_13 : decode cX12_both 13 = .ok (.iload_n 1, 1) := by decide +kernel
theorem dX12_both_14 : decode cX12_both 14 = .ok (.iconst 0, 1) := by decide +kernel
theorem dX12_both_15 : decode cX12_both 15 = .ok (.iconst 1, 1) := by decide +kernel
theorem dX12_both_16 : decode cX12_both 16 = .ok (.invokestatic 82, 3) := by decide +kernel
theorem dX12_both_19 : decode cX12_both 19 = .ok (.ifCond .ne 5, 3) := by decide +kernel
theorem dX12_both_22 : decode cX12_both 22 = .ok (.iconst (-1), 1) := by decide +kernel
theorem dX12_both_23 : decode cX12_both 23 = .ok (.ireturn, 1) := by decide +kernel
theorem dX12_both_24 : decode cX12_both 24 = .ok (.aload_n 0, 1) := by decide +kernel
theorem dX12_both_25 : decode cX12_both 25 = .ok (.invokevirtual 198, 3) := by decide +kernel
theorem dX12_both_28 : decode cX12_both 28 = .ok (.aload_n 0, 1) := by decide +kernel
theorem dX12_both_29 : decode cX12_both 29 = .ok (.iload_n 1, 1) := by decide +kernel
theorem dX12_both_30 : decode cX12_both 30 = .ok (.invokevirtual 201, 3) := by decide +kernel
theorem dX12_both_33 : decode cX12_both 33 = .ok (.aload_n 0, 1) := by decide +kernel
theorem dX12_both_34 : decode cX12_both 34 = .ok (.iconst 0, 1) := by decide +kernel
theorem dX12_both_35 : decode cX12_both 35 = .ok (.invokevirtual 214, 3) := by decide +kernel
theorem dX12_both_38 : decode cX12_both 38 = .ok (.ifCond .eq 15, 3) := by decide +kernel
theorem dX12_both_41 : decode cX12_both 41 = .ok (.aload_n 0, 1) := by decide +kernel
theorem dX12_both_42 : decode cX12_both 42 = .ok (.iconst 1, 1) := by decide +kernel
theorem dX12_both_43 : decode cX12_both 43 = .ok (.invokevirtual 214, 3) := by decide +kernel
theorem dX12_both_46 : decode cX12_both 46 = .ok (.ifCond .eq 7, 3) := by decide +kernel
theorem dX12_both_49 : decode cX12_both 49 = .ok (.iconst 1, 1) := by decide +kernel
theorem dX12_both_50 : decode cX12_both 50 = .ok (.goto 4, 3) := by decide +kernel
theorem dX12_both_53 : decode cX12_both 53 = .ok (.iconst 0, 1) := by decide +kernel
theorem dX12_both_54 : decode cX12_both 54 = .ok (.ireturn, 1) := by decide +kernel


def F_X12_both (s_o : SM) (x1 : Int32) : Option (Int32 × SM) := nm (mIs s_o 0 0) fun s_o_1 => (if (mI s_o_1 14) < 2 then some ((-1), s_o_1) else (F_X12_in x1 0 1).bind fun q_2 => (if q_2 = 0 then some ((-1), s_o_1) else (F_X12_lays s_o_1).bind fun q_3 => (F_X12_hears q_3 x1).bind fun q_4 => (F_X12_isLaw q_4 0).bind fun q_5 => (if q_5.1 = 0 then some (0, q_5.2) else (F_X12_isLaw q_5.2 1).bind fun q_6 => (if q_6.1 = 0 then some (0, q_6.2) else some (1, q_6.2)))))

abbrev rm_X12_both : Room := { frames := 4, cells := 0, slots := 0, locals := 93 }
set_option maxHeartbeats 4000000 in
set_option maxRecDepth 100000 in
theorem c_X12_both (l : Launch) (D : gG) (cB cI cJ cZ : ClassId) (o : Nat → Nat) (s_o : SM) (x1 : Int32) (r : Int32 × SM) (hf : F_X12_both s_o x1 = some r) : gM l D (tyL cB cI cJ cZ) yX12_both cX12_both 2 (some .int) rm_X12_both [.ref (o 0), .int x1] (wX12 o cB cI cJ cZ s_o) (some (.int r.1)) (wX12 o cB cI cJ cZ r.2) := by
  refine met_of (by decide) (Nat.le_of_ble_eq_true rfl) ?_
  intro p e s m args below meth c A cx hr hA
  show gW p l e rm_X12_both s m args below meth c D A 2 _ 0 0 _ [(0, .ref (o 0)), (1, .int x1)] 0 []
  rw [F_X12_both] at hf
  refine g_aln cx 0 dX12_both_0 rfl ?_
  refine g_ic cx dX12_both_1 k_ic0 ?_
  refine mp_thrown cx hf dX12_both_2 (fun s_o_1 hf => ?_)
  refine g_aln cx 0 dX12_both_5 rfl ?_
  refine mg_forms cx dX12_both_6 ?_
  refine g_ic cx dX12_both_9 k_ic2 ?_
  refine g_ic_lt (tgt := 22) cx hf dX12_both_10 rfl (fun hf => ?_) (fun hf => ?_)
  · refine g_ic cx dX12_both_22 k_icm1 ?_
    exact g_iret (ovf := fun (r : Int32 × SM) => (some (.int r.1))) (wf := fun (r : Int32 × SM) => (wX12 o cB cI cJ cZ r.2)) cx hA hr hf rfl rfl dX12_both_23
  · refine g_iln cx 1 dX12_both_13 rfl ?_
    refine g_ic cx dX12_both_14 k_ic0 ?_
    refine g_ic cx dX12_both_15 k_ic1 ?_
    refine ob hf (fun q_2 hq_2 hf => ?_)
    refine g_callSiR cx lk_RX12_82 (c_X12_in l D cB cI cJ cZ x1 0 1 q_2 hq_2) rfl [] rfl rfl rfl (Nat.le_of_ble_eq_true rfl) ⟨rfl, rfl, Nat.le_of_ble_eq_true rfl, Nat.le_of_ble_eq_true rfl⟩ dX12_both_16 ?_
    refine g_if_ne (tgt := 24) cx hf dX12_both_19 rfl (fun hf => ?_) (fun hf => ?_)
    · refine g_aln cx 0 dX12_both_24 rfl ?_
      refine ob hf (fun q_3 hq_3 hf => ?_)
      refine g_callVFv cx lk_RX12_198 (c_X12_lays l D cB cI cJ cZ o s_o_1 q_3 hq_3) rfl (ci := 10) (q1 := 0) rfl rfl rfl (Nat.le_of_ble_eq_true rfl) ⟨rfl, rfl, Nat.le_of_ble_eq_true rfl, Nat.le_of_ble_eq_true rfl⟩ dX12_both_25 ?_
      refine g_aln cx 0 dX12_both_28 rfl ?_
      refine g_iln cx 1 dX12_both_29 rfl ?_
      refine ob hf (fun q_4 hq_4 hf => ?_)
      refine g_callVFv cx lk_RX12_201 (c_X12_hears l D cB cI cJ cZ o q_3 x1 q_4 hq_4) rfl (ci := 10) (q1 := 0) rfl rfl rfl (Nat.le_of_ble_eq_true rfl) ⟨rfl, rfl, Nat.le_of_ble_eq_true rfl, Nat.le_of_ble_eq_true rfl⟩ dX12_both_30 ?_
      refine g_aln cx 0 dX12_both_33 rfl ?_
      refine g_ic cx dX12_both_34 k_ic0 ?_
      refine ob hf (fun q_5 hq_5 hf => ?_)
      refine g_callVFi cx lk_RX12_214 (c_X12_isLaw l D cB cI cJ cZ o q_4 0 q_5 hq_5) rfl (ci := 10) (q1 := 0) rfl rfl rfl (Nat.le_of_ble_eq_true rfl) ⟨rfl, rfl, Nat.le_of_ble_eq_true rfl, Nat.le_of_ble_eq_true rfl⟩ dX12_both_35 ?_
      refine g_if_eq (tgt := 53) cx hf dX12_both_38 rfl (fun hf => ?_) (fun hf => ?_)
      · refine g_ic cx dX12_both_53 k_ic0 ?_
        exact g_iret (ovf := fun (r : Int32 × SM) => (some (.int r.1))) (wf := fun (r : Int32 × SM) => (wX12 o cB cI cJ cZ r.2)) cx hA hr hf rfl rfl dX12_both_54
      · refine g_aln cx 0 dX12_both_41 rfl ?_
        refine g_ic cx dX12_both_42 k_ic1 ?_
        refine ob hf (fun q_6 hq_6 hf => ?_)
        refine g_callVFi cx lk_RX12_214 (c_X12_isLaw l D cB cI cJ cZ o q_5.2 1 q_6 hq_6) rfl (ci := 10) (q1 := 0) rfl rfl rfl (Nat.le_of_ble_eq_true rfl) ⟨rfl, rfl, Nat.le_of_ble_eq_true rfl, Nat.le_of_ble_eq_true rfl⟩ dX12_both_43 ?_
        refine g_if_eq (tgt := 53) cx hf dX12_both_46 rfl (fun hf => ?_) (fun hf => ?_)
        · refine g_ic cx dX12_both_53 k_ic0 ?_
          exact g_iret (ovf := fun (r : Int32 × SM) => (some (.int r.1))) (wf := fun (r : Int32 × SM) => (wX12 o cB cI cJ cZ r.2)) cx hA hr hf rfl rfl dX12_both_54
        · refine g_ic cx dX12_both_49 k_ic1 ?_
          refine g_goto (tgt := 54) cx dX12_both_50 rfl ?_
          exact g_iret (ovf := fun (r : Int32 × SM) => (some (.int r.1))) (wf := fun (r : Int32 × SM) => (wX12 o cB cI cJ cZ r.2)) cx hA hr hf rfl rfl dX12_both_54
    · refine g_ic cx dX12_both_22 k_icm1 ?_
      exact g_iret (ovf := fun (r : Int32 × SM) => (some (.int r.1))) (wf := fun (r : Int32 × SM) => (wX12 o cB cI cJ cZ r.2)) cx hA hr hf rfl rfl dX12_both_23
