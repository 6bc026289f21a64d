theorem dX6_at_0 : decode cX6_at 0 = .ok (.aload_n 0, 1) := by decide +kernel
theorem dX6_at_1 : decode cX6_at 1 = .ok (.ifnull 19, 3) := by decide +kernel
theorem dX6_at_4 : decode cX6_at 4 = .ok (.iload_n 1, 1) := by decide +kernel
theorem dX6_at_5 : decode cX6_at 5 = .ok (.ifCond .lt 15, 3) := by decide +kernel
theorem dX6_at_8 : decode cX6_at 8 = .ok (.iload_n 1, 1) := by decide +kernel
theorem dX6_at_9 : decode cX6_at 9 = .ok (.aload_n 0, 1) := by decide +kernel
theorem dX6_at_10 : decode cX6_at 10 = .ok (.arraylength, 1) := by decide +kernel
theorem dX6_at_11 : decode cX6_at 11 = .ok (.if_icmp .ge 9, 3) := by decide +kernel
theorem dX6_at_14 : decode cX6_at 14 = .ok (.aload_n 0, 1) := by decide +kernel
theorem dX6_at_15 : decode cX6_at 15 = .ok (.iload_n 1, 1) := by decide +kernel
theorem dX6_at_16 : decode cX6_at 16 = .ok (.iaload, 1) := by decide +kernel
theorem dX6_at_17 : decode cX6_at 17 = .ok (.goto 4, 3) := by decide +kernel
theorem dX6_at_20 : decode cX6_at 20 = .ok (.iconst 0, 1) := by decide +kernel
theorem dX6_at_21 : decode cX6_at 21 = .ok (.ireturn, 1) := by decide +kernel


def F_X6_at (n_a0 : Nat) (f_a0 : (Nat → Int32)) (x1 : Int32) : Option (Int32) := (if x1 < 0 then some (0) else (if (Int32.ofNat n_a0) ≤ x1 then some (0) else (aget n_a0 f_a0 x1).bind fun e_1 => some (e_1)))
def w_X6_at (a0 : Nat) (cB cI cJ cZ : ClassId) (n_a0 : Nat) (f_a0 : (Nat → Int32)) : va_W := List.flatten [[(a0, .inl (cI, n_a0, .inl f_a0))]]
abbrev rm_X6_at : Room := { frames := 0, cells := 0, slots := 0, locals := 0 }
set_option maxHeartbeats 4000000 in
set_option maxRecDepth 100000 in
theorem c_X6_at (l : Launch) (D : gG) (cB cI cJ cZ : ClassId) (a0 : Nat) (n_a0 : Nat) (f_a0 : (Nat → Int32)) (x1 : Int32) (r : Int32) (hf : F_X6_at n_a0 f_a0 x1 = some r) : gM l D (tyL cB cI cJ cZ) yX6_at cX6_at 2 (some .int) rm_X6_at [.ref a0, .int x1] (w_X6_at a0 cB cI cJ cZ n_a0 f_a0) (some (.int r)) (w_X6_at a0 cB cI cJ cZ n_a0 f_a0) := by
  refine met_of (by decide) (Nat.le_of_ble_eq_true rfl) ?_
  intro p e s m args below meth c A cx hr hA
  show gW p l e rm_X6_at s m args below meth c D A 2 _ 0 0 _ [(0, .ref a0), (1, .int x1)] 0 []
  rw [F_X6_at] at hf
  refine g_aln cx 0 dX6_at_0 rfl ?_
  refine g_nl cx dX6_at_1 ?_
  refine g_iln cx 1 dX6_at_4 rfl ?_
  refine g_if_lt (tgt := 20) cx hf dX6_at_5 rfl (fun hf => ?_) (fun hf => ?_)
  · refine g_ic cx dX6_at_20 k_ic0 ?_
    exact g_iret (ovf := fun (r : Int32) => (some (.int r))) (wf := fun (r : Int32) => (w_X6_at a0 cB cI cJ cZ n_a0 f_a0)) cx hA hr hf rfl rfl dX6_at_21
  · refine g_iln cx 1 dX6_at_8 rfl ?_
    refine g_aln cx 0 dX6_at_9 rfl ?_
    refine g_alen cx 0 1 rfl rfl rfl dX6_at_10 ?_
    refine g_ic_ge (tgt := 20) cx hf dX6_at_11 rfl (fun hf => ?_) (fun hf => ?_)
    · refine g_ic cx dX6_at_20 k_ic0 ?_
      exact g_iret (ovf := fun (r : Int32) => (some (.int r))) (wf := fun (r : Int32) => (w_X6_at a0 cB cI cJ cZ n_a0 f_a0)) cx hA hr hf rfl rfl dX6_at_21
    · refine g_aln cx 0 dX6_at_14 rfl ?_
      refine g_iln cx 1 dX6_at_15 rfl ?_
      refine g_iald cx 0 1 hf rfl rfl dX6_at_16 (fun e_1 hf => ?_)
      refine g_goto (tgt := 21) cx dX6_at_17 rfl ?_
      exact g_iret (ovf := fun (r : Int32) => (some (.int r))) (wf := fun (r : Int32) => (w_X6_at a0 cB cI cJ cZ n_a0 f_a0)) cx hA hr hf rfl rfl dX6_at_21
theorem dX6_set_0 : decode cX6_set 0 = .ok (.aload_n 0, 1) := by decide +kernel
theorem dX6_set_1 : decode cX6_set 1 = .ok (.ifnull 17, 3) := by decide +kernel
theorem dX6_set_4 : decode cX6_set 4 = .ok (.iload_n 1, 1) := by decide +kernel
theorem dX6_set_5 : decode cX6_set 5 = .ok (.ifCond .lt 13, 3) := by decide +kernel
theorem dX6_set_8 : decode cX6_set 8 = .ok (.iload_n 1, 1) := by decide +kernel
theorem dX6_set_9 : decode cX6_set 9 = .ok (.aload_n 0, 1) := by decide +kernel
theorem dX6_set_10 : decode cX6_set 10 = .ok (.arraylength, 1) := by decide +kernel
theorem dX6_set_11 : decode cX6_set 11 = .ok (.if_icmp .ge 7, 3) := by decide +kernel
theorem dX6_set_14 : decode cX6_set 14 = .ok (.aload_n 0, 1) := by decide +kernel
theorem dX6_set_15 : decode cX6_set 15 = .ok (.iload_n 1, 1) := by decide +kernel
theorem dX6_set_16 : decode cX6_set 16 = .ok (.iload_n 2, 1) := by decide +kernel
theorem dX6_set_17 : decode cX6_set 17 = .ok (.iastore, 1) := by decide +kernel
theorem dX6_set_18 : decode cX6_set 18 = .ok (.return_, 1) := by decide +kernel


def F_X6_set (n_a0 : Nat) (f_a0 : (Nat → Int32)) (x1 : Int32) (x2 : Int32) : Option ((Nat → Int32)) := (if x1 < 0 then some (f_a0) else (if (Int32.ofNat n_a0) ≤ x1 then some (f_a0) else (aset n_a0 f_a0 x1 x2).bind fun f_1 => some (f_1)))
def w_X6_set (a0 : Nat) (cB cI cJ cZ : ClassId) (n_a0 : Nat) (f_a0 : (Nat → Int32)) : va_W := List.flatten [[(a0, .inl (cI, n_a0, .inl f_a0))]]
abbrev rm_X6_set : Room := { frames := 0, cells := 0, slots := 0, locals := 0 }
set_option maxHeartbeats 4000000 in
set_option maxRecDepth 100000 in
theorem c_X6_set (l : Launch) (D : gG) (cB cI cJ cZ : ClassId) (a0 : Nat) (n_a0 : Nat) (f_a0 : (Nat → Int32)) (x1 : Int32) (x2 : Int32) (r : (Nat → Int32)) (hf : F_X6_set n_a0 f_a0 x1 x2 = some r) : gM l D (tyL cB cI cJ cZ) yX6_set cX6_set 3 none rm_X6_set [.ref a0, .int x1, .int x2] (w_X6_set a0 cB cI cJ cZ n_a0 f_a0) none (w_X6_set a0 cB cI cJ cZ n_a0 r) := by
  refine met_of (by decide) (Nat.le_of_ble_eq_true rfl) ?_
  intro p e s m args below meth c A cx hr hA
  show gW p l e rm_X6_set s m args below meth c D A 3 _ 0 0 _ [(0, .ref a0), (1, .int x1), (2, .int x2)] 0 []
  rw [F_X6_set] at hf
  refine g_aln cx 0 dX6_set_0 rfl ?_
  refine g_nl cx dX6_set_1 ?_
  refine g_iln cx 1 dX6_set_4 rfl ?_
  refine g_if_lt (tgt := 18) cx hf dX6_set_5 rfl (fun hf => ?_) (fun hf => ?_)
  · exact g_vret (ovf := fun (r : (Nat → Int32)) => none) (wf := fun (r : (Nat → Int32)) => (w_X6_set a0 cB cI cJ cZ n_a0 r)) cx hA hr hf rfl rfl dX6_set_18
  · refine g_iln cx 1 dX6_set_8 rfl ?_
    refine g_aln cx 0 dX6_set_9 rfl ?_
    refine g_alen cx 0 1 rfl rfl rfl dX6_set_10 ?_
    refine g_ic_ge (tgt := 18) cx hf dX6_set_11 rfl (fun hf => ?_) (fun hf => ?_)
    · exact g_vret (ovf := fun (r : (Nat → Int32)) => none) (wf := fun (r : (Nat → Int32)) => (w_X6_set a0 cB cI cJ cZ n_a0 r)) cx hA hr hf rfl rfl dX6_set_18
    · refine g_aln cx 0 dX6_set_14 rfl ?_
      refine g_iln cx 1 dX6_set_15 rfl ?_
      refine g_iln cx 2 dX6_set_16 rfl ?_
      refine g_iast cx 0 1 (ws' := fun f_1 => (w_X6_set a0 cB cI cJ cZ n_a0 f_1)) hf rfl rfl (fun _ => rfl) dX6_set_17 (fun f_1 hf => ?_)
      exact g_vret (ovf := fun (r : (Nat → Int32)) => none) (wf := fun (r : (Nat → Int32)) => (w_X6_set a0 cB cI cJ cZ n_a0 r)) cx hA hr hf rfl rfl dX6_set_18
theorem dX4_size_0 : decode cX4_size 0 = .ok (.aload_n 0, 1) := by decide +kernel
theorem dX4_size_1 : decode cX4_size 1 = .ok (.getfield 31, 3) := by decide +kernel
theorem dX4_size_4 : decode cX4_size 4 = .ok (.ireturn, 1) := by decide +kernel
theorem q1_88 : Cond.fieldLink RX4 31 "RhymeLaw$Paper" "size" "I" ∈ TT := tq1 88 rfl rfl
theorem fg_RX4_31 {p : Program} {l : Launch} {e : Env} {R : Room} {s : State} {m : MethodId} {args : Array Value} {below : List Frame} {meth : Method} {c : Code} {D : gG} {tys : List (ClassId × FieldType)} {A : Nat → Prop} {nL : Nat} {Q : State → Prop} {cells slots : Nat} {cc : ByteArray} {ws : va_W} {L : List (Nat × Value)} {pc : Nat} {stk : List Value} (cx : gX p s m args meth c cc nL RX4 D tys A) {a : Nat} {fs : List Value} {v : Value} (q0 : Nat) (he : ws[q0]? = some (a, .inr (4, fs))) (hv : fs[4]? = some v) (hd : decode cc pc = .ok (.getfield 31, 3)) (kk : gW p l e R s m args below meth c D A nL Q cells slots ws L (pc + 3) (v :: stk)) : gW p l e R s m args below meth c D A nL Q cells slots ws L pc (.ref a :: stk) :=
  g_get cx (C := RX4) (T := TX4) (N := 5) inT4 rfl 4 (Nat.le_of_ble_eq_true rfl) q1_88 rfl q0 he hv hd kk
def F_X4_size (s_o : S4) : Option (Int32) := some ((s4_size s_o))
def w_X4_size (o : Nat → Nat) (cB cI cJ cZ : ClassId) (s_o : S4) : va_W := List.flatten [(gX4 o cB cI cJ cZ s_o)]
abbrev rm_X4_size : Room := { frames := 0, cells := 0, slots := 0, locals := 0 }
set_option maxHeartbeats 4000000 in
set_option maxRecDepth 100000 in
theorem c_X4_size (l : Launch) (D : gG) (cB cI cJ cZ : ClassId) (o : Nat → Nat) (s_o : S4) (r : Int32) (hf : F_X4_size s_o = some r) : gM l D (tyL cB cI cJ cZ) yX4_size cX4_size 1 (some .int) rm_X4_size [.ref (o 0)] (w_X4_size o cB cI cJ cZ s_o) (some (.int r)) (w_X4_size o cB cI cJ cZ s_o) := by
  refine met_of (by decide) (Nat.le_of_ble_eq_true rfl) ?_
  intro p e s m args below meth c A cx hr hA
  show gW p l e rm_X4_size s m args below meth c D A 1 _ 0 0 _ [(0, .ref (o 0))] 0 []
  rw [F_X4_size] at hf
  refine g_aln cx 0 dX4_size_0 rfl ?_
  refine fg_RX4_31 cx 0 rfl rfl dX4_size_1 ?_
  exact g_iret (ovf := fun (r : Int32) => (some (.int r))) (wf := fun (r : Int32) => (w_X4_size o cB cI cJ cZ s_o)) cx hA hr hf rfl rfl dX4_size_4
theorem dX4_isFull_0 : decode cX4_isFull 0 = .ok (.aload_n 0, 1) := by decide +kernel
theorem dX4_isFull_1 : decode cX4_isFull 1 = .ok (.getfield 31, 3) := by decide +kernel
theorem dX4_isFull_4 : decode cX4_isFull 4 = .ok (.aload_n 0, 1) := by decide +kernel
theorem dX4_isFull_5 : decode cX4_isFull 5 = .ok (.getfield 27, 3) := by decide +kernel
theorem dX4_isFull_8 : decode cX4_isFull 8 = .ok (.if_icmp .lt 7, 3) := by decide +kernel
theorem dX4_isFull_11 : decode cX4_isFull 11 = .ok (.iconst 1, 1) := by decide +kernel
theorem dX4_isFull_12 : decode cX4_isFull 12 = .ok (.goto 4, 3) := by decide +kernel
theorem dX4_isFull_15 : decode cX4_isFull 15 = .ok (.iconst 0, 1) := by decide +kernel
theorem dX4_isFull_16 : decode cX4_isFull 16 = .ok (.ireturn, 1) := by decide +kernel
theorem q1_87 : Cond.fieldLink RX4 27 "RhymeLaw$Paper" "most" "I" ∈ TT := tq1 87 rfl rfl
theorem fg_RX4_27 {p : Program} {l : Launch} {e : Env} {R : Room} {s : State} {m : MethodId} {args : Array Value} {below : List Frame} {meth : Method} {c : Code} {D : gG} {tys : List (ClassId × FieldType)} {A : Nat → Prop} {nL : Nat} {Q : State → Prop} {cells slots : Nat} {cc : ByteArray} {ws : va_W} {L : List (Nat × Value)} {pc : Nat} {stk : List Value} (cx : gX p s m args meth c cc nL RX4 D tys A) {a : Nat} {fs : List Value} {v : Value} (q0 : Nat) (he : ws[q0]? = some (a, .inr (4, fs))) (hv : fs[3]? = some v) (hd : decode cc pc = .ok (.getfield 27, 3)) (kk : gW p l e R s m args below meth c D A nL Q cells slots ws L (pc + 3) (v :: stk)) : gW p l e R s m args below meth c D A nL Q cells slots ws L pc (.ref a :: stk) :=
  g_get cx (C := RX4) (T := TX4) (N := 5) inT4 rfl 3 (Nat.le_of_ble_eq_true rfl) q1_87 rfl q0 he hv hd kk
def F_X4_isFull (s_o : S4) : Option (Int32) := (if (s4_size s_o) < (s4_most s_o) then some (0) else some (1))
def w_X4_isFull (o : Nat → Nat) (cB cI cJ cZ : ClassId) (s_o : S4) : va_W := List.flatten [(gX4 o cB cI cJ cZ s_o)]
abbrev rm_X4_isFull : Room := { frames := 0, cells := 0, slots := 0, locals := 0 }
set_option maxHeartbeats 4000000 in
set_option maxRecDepth 100000 in
theorem c_X4_isFull (l : Launch) (D : gG) (cB cI cJ cZ : ClassId) (o : Nat → Nat) (s_o : S4) (r : Int32) (hf : F_X4_isFull s_o = some r) : gM l D (tyL cB cI cJ cZ) yX4_isFull cX4_isFull 1 (some .boolean) rm_X4_isFull [.ref (o 0)] (w_X4_isFull o cB cI cJ cZ s_o) (some (.int r)) (w_X4_isFull o cB cI cJ cZ s_o) := by
  refine met_of (by decide) (Nat.le_of_ble_eq_true rfl) ?_
  intro p e s m args below meth c A cx hr hA
  show gW p l e rm_X4_isFull s m args below meth c D A 1 _ 0 0 _ [(0, .ref (o 0))] 0 []
  rw [F_X4_isFull] at hf
  refine g_aln cx 0 dX4_isFull_0 rfl ?_
  refine fg_RX4_31 cx 0 rfl rfl dX4_isFull_1 ?_
  refine g_aln cx 0 dX4_isFull_4 rfl ?_
  refine fg_RX4_27 cx 0 rfl rfl dX4_isFull_5 ?_
  refine g_ic_lt (tgt := 15) cx hf dX4_isFull_8 rfl (fun hf => ?_) (fun hf => ?_)
  · refine g_ic cx dX4_isFull_15 k_ic0 ?_
    exact g_zret (ovf := fun (r : Int32) => (some (.int r))) (wf := fun (r : Int32) => (w_X4_isFull o cB cI cJ cZ s_o)) cx hA hr rfl hf rfl rfl dX4_isFull_16
  · refine g_ic cx dX4_isFull_11 k_ic1 ?_
    refine g_goto (tgt := 16) cx dX4_isFull_12 rfl ?_
    exact g_zret (ovf := fun (r : Int32) => (some (.int r))) (wf := fun (r : Int32) => (w_X4_isFull o cB cI cJ cZ s_o)) cx hA hr rfl hf rfl rfl dX4_isFull_16
theorem dX4_has_0 : decode cX4_has 0 = .ok (.iload_n 1, 1) := by decide +kernel
theorem dX4_has_1 : decode cX4_has 1 = .ok (.ifCond .lt 15, 3) := by decide +kernel
theorem dX4_has_4 : decode cX4_has 4 = .ok (.iload_n 1, 1) := by decide +kernel
theorem dX4_has_5 : decode cX4_has 5 = .ok (.aload_n 0, 1) := by decide +kernel
theorem dX4_has_6 : decode cX4_has 6 = .ok (.getfield 31, 3) := by decide +kernel
theorem dX4_has_9 : decode cX4_has 9 = .ok (.if_icmp .ge 7, 3) := by decide +kernel
theorem dX4_has_12 : decode cX4_has 12 = .ok (.iconst 1, 1) := by decide +kernel
theorem dX4_has_13 : decode cX4_has 13 = .ok (.goto 4, 3) := by decide +kernel
theorem dX4_has_16 : decode cX4_has 16 = .ok (.iconst 0, 1) := by decide +kernel
theorem dX4_has_17 : decode cX4_has 17 = .ok (.ireturn, 1) := by decide +kernel


def F_X4_has (s_o : S4) (x1 : Int32) : Option (Int32) := (if x1 < 0 then some (0) else (if (s4_size s_o) ≤ x1 then some (0) else some (1)))
def w_X4_has (o : Nat → Nat) (cB cI cJ cZ : ClassId) (s_o : S4) : va_W := List.flatten [(gX4 o cB cI cJ cZ s_o)]
abbrev rm_X4_has : Room := { frames := 0, cells := 0, slots := 0, locals := 0 }
set_option maxHeartbeats 4000000 in
set_option maxRecDepth 100000 in
theorem c_X4_has (l : Launch) (D : gG) (cB cI cJ cZ : ClassId) (o : Nat → Nat) (s_o : S4) (x1 : Int32) (r : Int32) (hf : F_X4_has s_o x1 = some r) : gM l D (tyL cB cI cJ cZ) yX4_has cX4_has 2 (some .boolean) rm_X4_has [.ref (o 0), .int x1] (w_X4_has o cB cI cJ cZ s_o) (some (.int r)) (w_X4_has o cB cI cJ cZ s_o) := by
  refine met_of (by decide) (Nat.le_of_ble_eq_true rfl) ?_
  intro p e s m args below meth c A cx hr hA
  show gW p l e rm_X4_has s m args below meth c D A 2 _ 0 0 _ [(0, .ref (o 0)), (1, .int x1)] 0 []
  rw [F_X4_has] at hf
  refine g_iln cx 1 dX4_has_0 rfl ?_
  refine g_if_lt (tgt := 16) cx hf dX4_has_1 rfl (fun hf => ?_) (fun hf => ?_)
  · refine g_ic cx dX4_has_16 k_ic0 ?_
    exact g_zret (ovf := fun (r : Int32) => (some (.int r))) (wf := fun (r : Int32) => (w_X4_has o cB cI cJ cZ s_o)) cx hA hr rfl hf rfl rfl dX4_has_17
  · refine g_iln cx 1 dX4_has_4 rfl ?_
    refine g_aln cx 0 dX4_has_5 rfl ?_
    refine fg_RX4_31 cx 0 rfl rfl dX4_has_6 ?_
    refine g_ic_ge (tgt := 16) cx hf dX4_has_9 rfl (fun hf => ?_) (fun hf => ?_)
    · refine g_ic cx dX4_has_16 k_ic0 ?_
      exact g_zret (ovf := fun (r : Int32) => (some (.int r))) (wf := fun (r : Int32) => (w_X4_has o cB cI cJ cZ s_o)) cx hA hr rfl hf rfl rfl dX4_has_17
    · refine g_ic cx dX4_has_12 k_ic1 ?_
      refine g_goto (tgt := 17) cx dX4_has_13 rfl ?_
      exact g_zret (ovf := fun (r : Int32) => (some (.int r))) (wf := fun (r : Int32) => (w_X4_has o cB cI cJ cZ s_o)) cx hA hr rfl hf rfl rfl dX4_has_17
theorem dX4_wipe_0 : decode cX4_wipe 0 = .ok (.aload_n 0, 1) := by decide +kernel
theorem dX4_wipe_1 : decode cX4_wipe 1 = .ok (.iconst 0, 1) := by decide +kernel
theorem dX4_wipe_2 : decode cX4_wipe 2 = .ok (.putfield 31, 3) := by decide +kernel
theorem dX4_wipe_5 : decode cX4_wipe 5 = .ok (.return_, 1) := by decide +kernel

theorem fp_RX4_31 {p : Program} {l : Launch} {e : Env} {R : Room} {s : State} {m : MethodId} {args : Array Value} {below : List Frame} {meth : Method} {c : Code} {D : gG} {tys : List (ClassId × FieldType)} {A : Nat → Prop} {nL : Nat} {Q : State → Prop} {cells slots : Nat} {cc : ByteArray} {ws : va_W} {L : List (Nat × Value)} {pc : Nat} {stk : List Value} (cx : gX p s m args meth c cc nL RX4 D tys A) {a : Nat} {fs : List Value} {x : Int32} (q0 : Nat) (he : ws[q0]? = some (a, .inr (4, fs))) (hl : 4 < fs.length) {ws' : va_W} (hw : ws.set q0 (a, .inr (4, fs.set 4 (.int x))) = ws') (hd : decode cc pc = .ok (.putfield 31, 3)) (kk : gW p l e R s m args below meth c D A nL Q cells slots ws' L (pc + 3) stk) : gW p l e R s m args below meth c D A nL Q cells slots ws L pc (.int x :: .ref a :: stk) :=
  g_put cx (C := RX4) (T := TX4) (N := 5) (ty0 := tyX4) (ty := .int) inT4 tyX4_ok nmX4 rfl 4 (Nat.le_of_ble_eq_true rfl) q1_88 rfl rfl rfl rfl rfl q0 he hl hw hd kk
def F_X4_wipe (s_o : S4) : Option (S4) := nm (u4_size s_o 0) fun s_o_1 => some (s_o_1)
def w_X4_wipe (o : Nat → Nat) (cB cI cJ cZ : ClassId) (s_o : S4) : va_W := List.flatten [(gX4 o cB cI cJ cZ s_o)]
abbrev rm_X4_wipe : Room := { frames := 0, cells := 0, slots := 0, locals := 0 }
set_option maxHeartbeats 4000000 in
set_option maxRecDepth 100000 in
theorem c_X4_wipe (l : Launch) (D : gG) (cB cI cJ cZ : ClassId) (o : Nat → Nat) (s_o : S4) (r : S4) (hf : F_X4_wipe s_o = some r) : gM l D (tyL cB cI cJ cZ) yX4_wipe cX4_wipe 1 none rm_X4_wipe [.ref (o 0)] (w_X4_wipe o cB cI cJ cZ s_o) none (w_X4_wipe o cB cI cJ cZ r) := by
  refine met_of (by decide) (Nat.le_of_ble_eq_true rfl) ?_
  intro p e s m args below meth c A cx hr hA
  show gW p l e rm_X4_wipe s m args below meth c D A 1 _ 0 0 _ [(0, .ref (o 0))] 0 []
  rw [F_X4_wipe] at hf
  refine g_aln cx 0 dX4_wipe_0 rfl ?_
  refine g_ic cx dX4_wipe_1 k_ic0 ?_
  refine fp_RX4_31 cx 0 rfl (Nat.le_of_ble_eq_true rfl) (ws' := (w_X4_wipe o cB cI cJ cZ (u4_size s_o 0))) rfl dX4_wipe_2 ?_
  refine g_nm (w := fun s_o_1 => (w_X4_wipe o cB cI cJ cZ s_o_1)) hf (fun s_o_1 hf => ?_)
  exact g_vret (ovf := fun (r : S4) => none) (wf := fun (r : S4) => (w_X4_wipe o cB cI cJ cZ r)) cx hA hr hf rfl rfl dX4_wipe_5
theorem dX4_cut_0 : decode cX4_cut 0 = .ok (.aload_n 0, 1) := by decide +kernel
theorem dX4_cut_1 : decode cX4_cut 1 = .ok (.iconst 0, 1) := by decide +kernel
theorem dX4_cut_2 : decode cX4_cut 2 = .ok (.aload_n 0, 1) := by decide +kernel
theorem dX4_cut_3 : decode cX4_cut 3 = .ok (.getfield 31, 3) := by decide +kernel
theorem dX4_cut_6 : decode cX4_cut 6 = .ok (.iload_n 1, 1) := by decide +kernel
theorem dX4_cut_7 : decode cX4_cut 7 = .ok (.invokestatic 21, 3) := by decide +kernel
theorem dX4_cut_10 : decode cX4_cut 10 = .ok (.invokestatic 34, 3) := by decide +kernel
theorem dX4_cut_13 : decode cX4_cut 13 = .ok (.putfield 31, 3) := by decide +kernel
theorem dX4_cut_16 : decode cX4_cut 16 = .ok (.return_, 1) := by decide +kernel
theorem q1_5 : Cond.initialized RJ9 ∈ TT := tq1 5 rfl rfl
theorem q1_81 : Cond.methodLink RX4 21 Lib.Math.min.name ∈ TT := tq1 81 rfl rfl
theorem q1_82 : Cond.static Lib.Math.min.name ∈ TT := tq1 82 rfl rfl
theorem q1_83 : Cond.code Lib.Math.min.name Lib.Math.min.code 2 (some .int) ∈ TT := tq1 83 rfl rfl
theorem q4_65 : Cond.methodLink RX4 34 Lib.Math.max.name ∈ TT := tq4 65 rfl rfl
theorem q4_66 : Cond.static Lib.Math.max.name ∈ TT := tq4 66 rfl rfl
theorem q4_67 : Cond.code Lib.Math.max.name Lib.Math.max.code 2 (some .int) ∈ TT := tq4 67 rfl rfl
theorem mr_RX4_34 : ∀ w ∈ ([.methodLink RX4 34 Lib.Math.max.name, .static Lib.Math.max.name, .initialized "java/lang/Math", .code Lib.Math.max.name Lib.Math.max.code 2 (some .int)] : List Cond), w ∈ TT := List.forall_mem_cons.mpr ⟨q4_65, List.forall_mem_cons.mpr ⟨q4_66, List.forall_mem_cons.mpr ⟨q1_5, List.forall_mem_cons.mpr ⟨q4_67, fun _ h => absurd h List.not_mem_nil⟩⟩⟩⟩
theorem mr_RX4_21 : ∀ w ∈ ([.methodLink RX4 21 Lib.Math.min.name, .static Lib.Math.min.name, .initialized "java/lang/Math", .code Lib.Math.min.name Lib.Math.min.code 2 (some .int)] : List Cond), w ∈ TT := List.forall_mem_cons.mpr ⟨q1_81, List.forall_mem_cons.mpr ⟨q1_82, List.forall_mem_cons.mpr ⟨q1_5, List.forall_mem_cons.mpr ⟨q1_83, fun _ h => absurd h List.not_mem_nil⟩⟩⟩⟩
def F_X4_cut (s_o : S4) (x1 : Int32) : Option (S4) := nm (u4_size s_o (if 0 < (if x1 < (s4_size s_o) then x1 else (s4_size s_o)) then (if x1 < (s4_size s_o) then x1 else (s4_size s_o)) else 0)) fun s_o_1 => some (s_o_1)
def w_X4_cut (o : Nat → Nat) (cB cI cJ cZ : ClassId) (s_o : S4) : va_W := List.flatten [(gX4 o cB cI cJ cZ s_o)]
abbrev rm_X4_cut : Room := { frames := 1, cells := 0, slots := 0, locals := 21 }
set_option maxHeartbeats 4000000 in
set_option maxRecDepth 100000 in
theorem c_X4_cut (l : Launch) (D : gG) (cB cI cJ cZ : ClassId) (o : Nat → Nat) (s_o : S4) (x1 : Int32) (r : S4) (hf : F_X4_cut s_o x1 = some r) : gM l D (tyL cB cI cJ cZ) yX4_cut cX4_cut 2 none rm_X4_cut [.ref (o 0), .int x1] (w_X4_cut o cB cI cJ cZ s_o) none (w_X4_cut o cB cI cJ cZ r) := by
  refine met_of (by decide) (Nat.le_of_ble_eq_true rfl) ?_
  intro p e s m args below meth c A cx hr hA
  show gW p l e rm_X4_cut s m args below meth c D A 2 _ 0 0 _ [(0, .ref (o 0)), (1, .int x1)] 0 []
  rw [F_X4_cut] at hf
  refine g_aln cx 0 dX4_cut_0 rfl ?_
  refine g_ic cx dX4_cut_1 k_ic0 ?_
  refine g_aln cx 0 dX4_cut_2 rfl ?_
  refine fg_RX4_31 cx 0 rfl rfl dX4_cut_3 ?_
  refine g_iln cx 1 dX4_cut_6 rfl ?_
  refine g_min cx mr_RX4_21 (Nat.le_of_ble_eq_true rfl) ⟨Nat.le_of_ble_eq_true rfl, Nat.le_of_ble_eq_true rfl⟩ dX4_cut_7 ?_
  refine g_max cx mr_RX4_34 (Nat.le_of_ble_eq_true rfl) ⟨Nat.le_of_ble_eq_true rfl, Nat.le_of_ble_eq_true rfl⟩ dX4_cut_10 ?_
  refine fp_RX4_31 cx 0 rfl (Nat.le_of_ble_eq_true rfl) (ws' := (w_X4_cut o cB cI cJ cZ (u4_size s_o (if 0 < (if x1 < (s4_size s_o) then x1 else (s4_size s_o)) then (if x1 < (s4_size s_o) then x1 else (s4_size s_o)) else 0)))) rfl dX4_cut_13 ?_
  refine g_nm (w := fun s_o_1 => (w_X4_cut o cB cI cJ cZ s_o_1)) hf (fun s_o_1 hf => ?_)
  exact g_vret (ovf := fun (r : S4) => none) (wf := fun (r : S4) => (w_X4_cut o cB cI cJ cZ r)) cx hA hr hf rfl rfl dX4_cut_16
theorem dX4_wordAt_0 : decode cX4_wordAt 0 = .ok (.aload_n 0, 1) := by decide +kernel
theorem dX4_wordAt_1 : decode cX4_wordAt 1 = .ok (.getfield 9, 3) := by decide +kernel
theorem dX4_wordAt_4 : decode cX4_wordAt 4 = .ok (.iload_n 1, 1) := by decide +kernel
theorem dX4_wordAt_5 : decode cX4_wordAt 5 = .ok (.invokestatic 37, 3) := by decide +kernel
theorem dX4_wordAt_8 : decode cX4_wordAt 8 = .ok (.ireturn, 1) := by decide +kernel
theorem q1_19 : Cond.initialized RX6 ∈ TT := tq1 19 rfl rfl
theorem q1_84 : Cond.fieldLink RX4 9 "RhymeLaw$Paper" "words" "[I" ∈ TT := tq1 84 rfl rfl
theorem q2_207 : Cond.static yX6_at ∈ TT := tq2 207 rfl rfl
theorem q2_208 : Cond.code yX6_at cX6_at 2 (some .int) ∈ TT := tq2 208 rfl rfl
theorem q3_3 : Cond.methodLink RX4 37 yX6_at ∈ TT := tq3 3 rfl rfl
theorem fg_RX4_9 {p : Program} {l : Launch} {e : Env} {R : Room} {s : State} {m : MethodId} {args : Array Value} {below : List Frame} {meth : Method} {c : Code} {D : gG} {tys : List (ClassId × FieldType)} {A : Nat → Prop} {nL : Nat} {Q : State → Prop} {cells slots : Nat} {cc : ByteArray} {ws : va_W} {L : List (Nat × Value)} {pc : Nat} {stk : List Value} (cx : gX p s m args meth c cc nL RX4 D tys A) {a : Nat} {fs : List Value} {v : Value} (q0 : Nat) (he : ws[q0]? = some (a, .inr (4, fs))) (hv : fs[0]? = some v) (hd : decode cc pc = .ok (.getfield 9, 3)) (kk : gW p l e R s m args below meth c D A nL Q cells slots ws L (pc + 3) (v :: stk)) : gW p l e R s m args below meth c D A nL Q cells slots ws L pc (.ref a :: stk) :=
  g_get cx (C := RX4) (T := TX4) (N := 5) inT4 rfl 0 (Nat.le_of_ble_eq_true rfl) q1_84 rfl q0 he hv hd kk
theorem lk_RX4_37 : slk RX4 37 yX6_at cX6_at 2 (some .int) 2 := ⟨List.forall_mem_cons.mpr ⟨q3_3, List.forall_mem_cons.mpr ⟨q2_207, List.forall_mem_cons.mpr ⟨q1_19, fun _ h => absurd h List.not_mem_nil⟩⟩⟩, q2_208, by decide, by decide, by decide +kernel⟩
def F_X4_wordAt (s_o : S4) (x1 : Int32) : Option (Int32) := (F_X6_at 8 (s4_words s_o) x1).bind fun q_1 => some (q_1)
def w_X4_wordAt (o : Nat → Nat) (cB cI cJ cZ : ClassId) (s_o : S4) : va_W := List.flatten [(gX4 o cB cI cJ cZ s_o)]
abbrev rm_X4_wordAt : Room := { frames := 1, cells := 0, slots := 0, locals := 21 }
set_option maxHeartbeats 4000000 in
set_option maxRecDepth 100000 in
theorem c_X4_wordAt (l : Launch) (D : gG) (cB cI cJ cZ : ClassId) (o : Nat → Nat) (s_o : S4) (x1 : Int32) (r : Int32) (hf : F_X4_wordAt s_o x1 = some r) : gM l D (tyL cB cI cJ cZ) yX4_wordAt cX4_wordAt 2 (some .int) rm_X4_wordAt [.ref (o 0), .int x1] (w_X4_wordAt o cB cI cJ cZ s_o) (some (.int r)) (w_X4_wordAt o cB cI cJ cZ s_o) := by
  refine met_of (by decide) (Nat.le_of_ble_eq_true rfl) ?_
  intro p e s m args below meth c A cx hr hA
  show gW p l e rm_X4_wordAt s m args below meth c D A 2 _ 0 0 _ [(0, .ref (o 0)), (1, .int x1)] 0 []
  rw [F_X4_wordAt] at hf
  refine g_aln cx 0 dX4_wordAt_0 rfl ?_
  refine fg_RX4_9 cx 0 rfl rfl dX4_wordAt_1 ?_
  refine g_iln cx 1 dX4_wordAt_4 rfl ?_
  refine ob hf (fun q_1 hq_1 hf => ?_)
  refine g_callSiR cx lk_RX4_37 (c_X6_at l D cB cI cJ cZ (o 1) 8 (s4_words s_o) x1 q_1 hq_1) rfl [1] rfl rfl rfl (Nat.le_of_ble_eq_true rfl) ⟨rfl, rfl, Nat.le_of_ble_eq_true rfl, Nat.le_of_ble_eq_true rfl⟩ dX4_wordAt_5 ?_
  exact g_iret (ovf := fun (r : Int32) => (some (.int r))) (wf := fun (r : Int32) => (w_X4_wordAt o cB cI cJ cZ s_o)) cx hA hr hf rfl rfl dX4_wordAt_8
theorem dX4_thingAt_0 : decode cX4_thingAt 0 = .ok (.aload_n 0, 1) := by decide +kernel
theorem dX4_thingAt_1 : decode cX4_thingAt 1 = .ok (.getfield 15, 3) := by decide +kernel
theorem dX4_thingAt_4 : decode cX4_thingAt 4 = .ok (.iload_n 1, 1) := by decide +kernel
theorem dX4_thingAt_5 : decode cX4_thingAt 5 = .ok (.invokestatic 37, 3) := by decide +kernel
theorem dX4_thingAt_8 : decode cX4_thingAt 8 = .ok (.ireturn, 1) := by decide +kernel
theorem q1_85 : Cond.fieldLink RX4 15 "RhymeLaw$Paper" "things" "[I" ∈ TT := tq1 85 rfl rfl
theorem fg_RX4_15 {p : Program} {l : Launch} {e : Env} {R : Room} {s : State} {m : MethodId} {args : Array Value} {below : List Frame} {meth : Method} {c : Code} {D : gG} {tys : List (ClassId × FieldType)} {A : Nat → Prop} {nL : Nat} {Q : State → Prop} {cells slots : Nat} {cc : ByteArray} {ws : va_W} {L : List (Nat × Value)} {pc : Nat} {stk : List Value} (cx : gX p s m args meth c cc nL RX4 D tys A) {a : Nat} {fs : List Value} {v : Value} (q0 : Nat) (he : ws[q0]? = some (a, .inr (4, fs))) (hv : fs[1]? = some v) (hd : decode cc pc = .ok (.getfield 15, 3)) (kk : gW p l e R s m args below meth c D A nL Q cells slots ws L (pc + 3) (v :: stk)) : gW p l e R s m args below meth c D A nL Q cells slots ws L pc (.ref a :: stk) :=
  g_get cx (C := RX4) (T := TX4) (N := 5) inT4 rfl 1 (Nat.le_of_ble_eq_true rfl) q1_85 rfl q0 he hv hd kk
def F_X4_thingAt (s_o : S4) (x1 : Int32) : Option (Int32) := (F_X6_at 8 (s4_things s_o) x1).bind fun q_1 => some (q_1)
def w_X4_thingAt (o : Nat → Nat) (cB cI cJ cZ : ClassId) (s_o : S4) : va_W := List.flatten [(gX4 o cB cI cJ cZ s_o)]
abbrev rm_X4_thingAt : Room := { frames := 1, cells := 0, slots := 0, locals := 21 }
set_option maxHeartbeats 4000000 in
set_option maxRecDepth 100000 in
theorem c_X4_thingAt (l : Launch) (D : gG) (cB cI cJ cZ : ClassId) (o : Nat → Nat) (s_o : S4) (x1 : Int32) (r : Int32) (hf : F_X4_thingAt s_o x1 = some r) : gM l D (tyL cB cI cJ cZ) yX4_thingAt cX4_thingAt 2 (some .int) rm_X4_thingAt [.ref (o 0), .int x1] (w_X4_thingAt o cB cI cJ cZ s_o) (some (.int r)) (w_X4_thingAt o cB cI cJ cZ s_o) := by
  refine met_of (by decide) (Nat.le_of_ble_eq_true rfl) ?_
  intro p e s m args below meth c A cx hr hA
  show gW p l e rm_X4_thingAt s m args below meth c D A 2 _ 0 0 _ [(0, .ref (o 0)), (1, .int x1)] 0 []
  rw [F_X4_thingAt] at hf
  refine g_aln cx 0 dX4_thingAt_0 rfl ?_
  refine fg_RX4_15 cx 0 rfl rfl dX4_thingAt_1 ?_
  refine g_iln cx 1 dX4_thingAt_4 rfl ?_
  refine ob hf (fun q_1 hq_1 hf => ?_)
  refine g_callSiR cx lk_RX4_37 (c_X6_at l D cB cI cJ cZ (o 2) 8 (s4_things s_o) x1 q_1 hq_1) rfl [2] rfl rfl rfl (Nat.le_of_ble_eq_true rfl) ⟨rfl, rfl, Nat.le_of_ble_eq_true rfl, Nat.le_of_ble_eq_true rfl⟩ dX4_thingAt_5 ?_
  exact g_iret (ovf := fun (r : Int32) => (some (.int r))) (wf := fun (r : Int32) => (w_X4_thingAt o cB cI cJ cZ s_o)) cx hA hr hf rfl rfl dX4_thingAt_8
theorem dX4_beforeAt_0 : decode cX4_beforeAt 0 = .ok (.aload_n 0, 1) := by decide +kernel
theorem dX4_beforeAt_1 : decode cX4_beforeAt 1 = .ok (.getfield 18, 3) := by decide +kernel
theorem dX4_beforeAt_4 : decode cX4_beforeAt 4 = .ok (.iload_n 1, 1) := by decide +kernel
theorem dX4_beforeAt_5 : decode cX4_beforeAt 5 = .ok (.invokestatic 37, 3) := by decide +kernel
theorem dX4_beforeAt_8 : decode cX4_beforeAt 8 = .ok (.ireturn, 1) := by decide +kernel
theorem q1_86 : Cond.fieldLink RX4 18 "RhymeLaw$Paper" "befores" "[I" ∈ TT := tq1 86 rfl rfl
theorem fg_RX4_18 {p : Program} {l : Launch} {e : Env} {R : Room} {s : State} {m : MethodId} {args : Array Value} {below : List Frame} {meth : Method} {c : Code} {D : gG} {tys : List (ClassId × FieldType)} {A : Nat → Prop} {nL : Nat} {Q : State → Prop} {cells slots : Nat} {cc : ByteArray} {ws : va_W} {L : List (Nat × Value)} {pc : Nat} {stk : List Value} (cx : gX p s m args meth c cc nL RX4 D tys A) {a : Nat} {fs : List Value} {v : Value} (q0 : Nat) (he : ws[q0]? = some (a, .inr (4, fs))) (hv : fs[2]? = some v) (hd : decode cc pc = .ok (.getfield 18, 3)) (kk : gW p l e R s m args below meth c D A nL Q cells slots ws L (pc + 3) (v :: stk)) : gW p l e R s m args below meth c D A nL Q cells slots ws L pc (.ref a :: stk) :=
  g_get cx (C := RX4) (T := TX4) (N := 5) inT4 rfl 2 (Nat.le_of_ble_eq_true rfl) q1_86 rfl q0 he hv hd kk
def F_X4_beforeAt (s_o : S4) (x1 : Int32) : Option (Int32) := (F_X6_at 8 (s4_befores s_o) x1).bind fun q_1 => some (q_1)
def w_X4_beforeAt (o : Nat → Nat) (cB cI cJ cZ : ClassId) (s_o : S4) : va_W := List.flatten [(gX4 o cB cI cJ cZ s_o)]
abbrev rm_X4_beforeAt : Room := { frames := 1, cells := 0, slots := 0, locals := 21 }
set_option maxHeartbeats 4000000 in
set_option maxRecDepth 100000 in
theorem c_X4_beforeAt (l : Launch) (D : gG) (cB cI cJ cZ : ClassId) (o : Nat → Nat) (s_o : S4) (x1 : Int32) (r : Int32) (hf : F_X4_beforeAt s_o x1 = some r) : gM l D (tyL cB cI cJ cZ) yX4_beforeAt cX4_beforeAt 2 (some .int) rm_X4_beforeAt [.ref (o 0), .int x1] (w_X4_beforeAt o cB cI cJ cZ s_o) (some (.int r)) (w_X4_beforeAt o cB cI cJ cZ s_o) := by
  refine met_of (by decide) (Nat.le_of_ble_eq_true rfl) ?_
  intro p e s m args below meth c A cx hr hA
  show gW p l e rm_X4_beforeAt s m args below meth c D A 2 _ 0 0 _ [(0, .ref (o 0)), (1, .int x1)] 0 []
  rw [F_X4_beforeAt] at hf
  refine g_aln cx 0 dX4_beforeAt_0 rfl ?_
  refine fg_RX4_18 cx 0 rfl rfl dX4_beforeAt_1 ?_
  refine g_iln cx 1 dX4_beforeAt_4 rfl ?_
  refine ob hf (fun q_1 hq_1 hf => ?_)
  refine g_callSiR cx lk_RX4_37 (c_X6_at l D cB cI cJ cZ (o 3) 8 (s4_befores s_o) x1 q_1 hq_1) rfl [3] rfl rfl rfl (Nat.le_of_ble_eq_true rfl) ⟨rfl, rfl, Nat.le_of_ble_eq_true rfl, Nat.le_of_ble_eq_true rfl⟩ dX4_beforeAt_5 ?_
  exact g_iret (ovf := fun (r : Int32) => (some (.int r))) (wf := fun (r : Int32) => (w_X4_beforeAt o cB cI cJ cZ s_o)) cx hA hr hf rfl rfl dX4_beforeAt_8
theorem dX4_setWord_0 : decode cX4_setWord 0 = .ok (.aload_n 0, 1) := by decide +kernel
theorem dX4_setWord_1 : decode cX4_setWord 1 = .ok (.getfield 9, 3) := by decide +kernel
theorem dX4_setWord_4 : decode cX4_setWord 4 = .ok (.iload_n 1, 1) := by decide +kernel
theorem dX4_setWord_5 : decode cX4_setWord 5 = .ok (.iload_n 2, 1) := by decide +kernel
theorem dX4_setWord_6 : decode cX4_setWord 6 = .ok (.invokestatic 43, 3) := by decide +kernel
theorem dX4_setWord_9 : decode cX4_setWord 9 = .ok (.return_, 1) := by decide +kernel
theorem q2_178 : Cond.static yX6_set ∈ TT := tq2 178 rfl rfl
theorem q2_179 : Cond.code yX6_set cX6_set 3 none ∈ TT := tq2 179 rfl rfl
theorem q3_16 : Cond.methodLink RX4 43 yX6_set ∈ TT := tq3 16 rfl rfl
theorem lk_RX4_43 : slk RX4 43 yX6_set cX6_set 3 none 3 := ⟨List.forall_mem_cons.mpr ⟨q3_16, List.forall_mem_cons.mpr ⟨q2_178, List.forall_mem_cons.mpr ⟨q1_19, fun _ h => absurd h List.not_mem_nil⟩⟩⟩, q2_179, by decide, by decide, by decide +kernel⟩
def F_X4_setWord (s_o : S4) (x1 : Int32) (x2 : Int32) : Option (S4) := (F_X6_set 8 (s4_words s_o) x1 x2).bind fun q_1 => some ((u4_words s_o q_1))
def w_X4_setWord (o : Nat → Nat) (cB cI cJ cZ : ClassId) (s_o : S4) : va_W := List.flatten [(gX4 o cB cI cJ cZ s_o)]
abbrev rm_X4_setWord : Room := { frames := 1, cells := 0, slots := 0, locals := 22 }
set_option maxHeartbeats 4000000 in
set_option maxRecDepth 100000 in
theorem c_X4_setWord (l : Launch) (D : gG) (cB cI cJ cZ : ClassId) (o : Nat → Nat) (s_o : S4) (x1 : Int32) (x2 : Int32) (r : S4) (hf : F_X4_setWord s_o x1 x2 = some r) : gM l D (tyL cB cI cJ cZ) yX4_setWord cX4_setWord 3 none rm_X4_setWord [.ref (o 0), .int x1, .int x2] (w_X4_setWord o cB cI cJ cZ s_o) none (w_X4_setWord o cB cI cJ cZ r) := by
  refine met_of (by decide) (Nat.le_of_ble_eq_true rfl) ?_
  intro p e s m args below meth c A cx hr hA
  show gW p l e rm_X4_setWord s m args below meth c D A 3 _ 0 0 _ [(0, .ref (o 0)), (1, .int x1), (2, .int x2)] 0 []
  rw [F_X4_setWord] at hf
  refine g_aln cx 0 dX4_setWord_0 rfl ?_
  refine fg_RX4_9 cx 0 rfl rfl dX4_setWord_1 ?_
  refine g_iln cx 1 dX4_setWord_4 rfl ?_
  refine g_iln cx 2 dX4_setWord_5 rfl ?_
  refine ob hf (fun q_1 hq_1 hf => ?_)
  refine g_callSv cx lk_RX4_43 (c_X6_set l D cB cI cJ cZ (o 1) 8 (s4_words s_o) x1 x2 q_1 hq_1) rfl [1] rfl rfl (ws' := (w_X4_setWord o cB cI cJ cZ (u4_words s_o q_1))) rfl rfl rfl (Nat.le_of_ble_eq_true rfl) ⟨rfl, rfl, Nat.le_of_ble_eq_true rfl, Nat.le_of_ble_eq_true rfl⟩ dX4_setWord_6 ?_
  exact g_vret (ovf := fun (r : S4) => none) (wf := fun (r : S4) => (w_X4_setWord o cB cI cJ cZ r)) cx hA hr hf rfl rfl dX4_setWord_9
theorem dX4_part_0 : decode cX4_part 0 = .ok (.aload_n 0, 1) := by decide +kernel
theorem dX4_part_1 : decode cX4_part 1 = .ok (.iload_n 1, 1) := by decide +kernel
theorem dX4_part_2 : decode cX4_part 2 = .ok (.invokevirtual 47, 3) := by decide +kernel
theorem dX4_part_5 : decode cX4_part 5 = .ok (.ifCond .ne 5, 3) := by decide +kernel
theorem dX4_part_8 : decode cX4_part 8 = .ok (.iconst (-1), 1) := by decide +kernel
theorem dX4_part_9 : decode cX4_part 9 = .ok (.ireturn, 1) := by decide +kernel
theorem dX4_part_10 : decode cX4_part 10 = .ok (.iload_n 2, 1) := by decide +kernel
theorem dX4_part_11 : decode cX4_part 11 = .ok (.tableswitch 43 0 2 #[25, 31, 37], 25) := by decide +kernel
theorem dX4_part_36 : decode cX4_part 36 = .ok (.aload_n 0, 1) := by decide +kernel
theorem dX4_part_37 : decode cX4_part 37 = .ok (.iload_n 1, 1) := by decide +kernel
theorem dX4_part_38 : decode cX4_part 38 = .ok (.invokevirtual 51, 3) := by decide +kernel
theorem dX4_part_41 : decode cX4_part 41 = .ok (.ireturn, 1) := by decide +kernel
theorem dX4_part_42 : decode cX4_part 42 = .ok (.aload_n 0, 1) := by decide +kernel
theorem dX4_part_43 : decode cX4_part 43 = .ok (.iload_n 1, 1) := by decide +kernel
theorem dX4_part_44 : decode cX4_part 44 = .ok (.invokevirtual 55, 3) := by decide +kernel
theorem dX4_part_47 : decode cX4_part 47 = .ok (.ireturn, 1) := by decide +kernel
theorem dX4_part_48 : decode cX4_part 48 = .ok (.aload_n 0, 1) := by decide +kernel
theorem dX4_part_49 : decode cX4_part 49 = .ok (.iload_n 1, 1) := by decide +kernel
theorem dX4_part_50 : decode cX4_part 50 = .ok (.invokevirtual 58, 3) := by decide +kernel
theorem dX4_part_53 : decode cX4_part 53 = .ok (.ireturn, 1) := by decide +kernel
theorem dX4_part_54 : decode cX4_part 54 = .ok (.iconst (-1), 1) := by decide +kernel
theorem dX4_part_55 : decode cX4_part 55 = .ok (.ireturn, 1) := by decide +kernel
theorem sw_2 {x : Int32} (h0 : ¬ x = 0) (h1 : ¬ x = 1) (h2 : ¬ x = 2) : ∀ n : Nat, n ≤ 2 → ¬ x = nI n := by
  intro n hn
  match n, hn with
  | 0, _ => exact h0
  | 1, _ => exact h1
  | 2, _ => exact h2
theorem q1_4 : Cond.initialized RX4 ∈ TT := tq1 4 rfl rfl
theorem q2_239 : Cond.methodLink RX4 51 yX4_wordAt ∈ TT := tq2 239 rfl rfl
theorem q3_0 : Cond.instanceMethod yX4_wordAt ∈ TT := tq3 0 rfl rfl
theorem q3_1 : Cond.selects RX4 yX4_wordAt yX4_wordAt ∈ TT := tq3 1 rfl rfl
theorem q3_2 : Cond.code yX4_wordAt cX4_wordAt 2 (some .int) ∈ TT := tq3 2 rfl rfl
theorem q3_4 : Cond.methodLink RX4 55 yX4_thingAt ∈ TT := tq3 4 rfl rfl
theorem q3_5 : Cond.instanceMethod yX4_thingAt ∈ TT := tq3 5 rfl rfl
theorem q3_6 : Cond.selects RX4 yX4_thingAt yX4_thingAt ∈ TT := tq3 6 rfl rfl
theorem q3_7 : Cond.code yX4_thingAt cX4_thingAt 2 (some .int) ∈ TT := tq3 7 rfl rfl
theorem q3_8 : Cond.methodLink RX4 58 yX4_beforeAt ∈ TT := tq3 8 rfl rfl
theorem q3_9 : Cond.instanceMethod yX4_beforeAt ∈ TT := tq3 9 rfl rfl
theorem q3_10 : Cond.selects RX4 yX4_beforeAt yX4_beforeAt ∈ TT := tq3 10 rfl rfl
theorem q3_11 : Cond.code yX4_beforeAt cX4_beforeAt 2 (some .int) ∈ TT := tq3 11 rfl rfl
theorem q3_74 : Cond.methodLink RX4 47 yX4_has ∈ TT := tq3 74 rfl rfl
theorem q3_75 : Cond.instanceMethod yX4_has ∈ TT := tq3 75 rfl rfl
theorem q3_76 : Cond.selects RX4 yX4_has yX4_has ∈ TT := tq3 76 rfl rfl
theorem q3_77 : Cond.code yX4_has cX4_has 2 (some .boolean) ∈ TT := tq3 77 rfl rfl
theorem lk_RX4_47 : vlk RX4 47 yX4_has cX4_has 2 (some .boolean) 1 := ⟨List.forall_mem_cons.mpr ⟨q3_74, List.forall_mem_cons.mpr ⟨q3_75, List.forall_mem_cons.mpr ⟨q3_76, List.forall_mem_cons.mpr ⟨q1_4, fun _ h => absurd h List.not_mem_nil⟩⟩⟩⟩, q3_77, by decide, by decide, by decide +kernel⟩
theorem lk_RX4_51 : vlk RX4 51 yX4_wordAt cX4_wordAt 2 (some .int) 1 := ⟨List.forall_mem_cons.mpr ⟨q2_239, List.forall_mem_cons.mpr ⟨q3_0, List.forall_mem_cons.mpr ⟨q3_1, List.forall_mem_cons.mpr ⟨q1_4, fun _ h => absurd h List.not_mem_nil⟩⟩⟩⟩, q3_2, by decide, by decide, by decide +kernel⟩
theorem lk_RX4_55 : vlk RX4 55 yX4_thingAt cX4_thingAt 2 (some .int) 1 := ⟨List.forall_mem_cons.mpr ⟨q3_4, List.forall_mem_cons.mpr ⟨q3_5, List.forall_mem_cons.mpr ⟨q3_6, List.forall_mem_cons.mpr ⟨q1_4, fun _ h => absurd h List.not_mem_nil⟩⟩⟩⟩, q3_7, by decide, by decide, by decide +kernel⟩
theorem lk_RX4_58 : vlk RX4 58 yX4_beforeAt cX4_beforeAt 2 (some .int) 1 := ⟨List.forall_mem_cons.mpr ⟨q3_8, List.forall_mem_cons.mpr ⟨q3_9, List.forall_mem_cons.mpr ⟨q3_10, List.forall_mem_cons.mpr ⟨q1_4, fun _ h => absurd h List.not_mem_nil⟩⟩⟩⟩, q3_11, by decide, by decide, by decide +kernel⟩
def F_X4_part (s_o : S4) (x1 : Int32) (x2 : Int32) : Option (Int32) := (F_X4_has s_o x1).bind fun q_1 => (if q_1 = 0 then some ((-1)) else (if x2 = 0 then (F_X4_wordAt s_o x1).bind fun q_2 => some (q_2) else (if x2 = 1 then (F_X4_thingAt s_o x1).bind fun q_3 => some (q_3) else (if x2 = 2 then (F_X4_beforeAt s_o x1).bind fun q_4 => some (q_4) else some ((-1))))))
def w_X4_part (o : Nat → Nat) (cB cI cJ cZ : ClassId) (s_o : S4) : va_W := List.flatten [(gX4 o cB cI cJ cZ s_o)]
abbrev rm_X4_part : Room := { frames := 2, cells := 0, slots := 0, locals := 42 }
set_option maxHeartbeats 4000000 in
set_option maxRecDepth 100000 in
theorem c_X4_part (l : Launch) (D : gG) (cB cI cJ cZ : ClassId) (o : Nat → Nat) (s_o : S4) (x1 : Int32) (x2 : Int32) (r : Int32) (hf : F_X4_part s_o x1 x2 = some r) : gM l D (tyL cB cI cJ cZ) yX4_part cX4_part 3 (some .int) rm_X4_part [.ref (o 0), .int x1, .int x2] (w_X4_part o cB cI cJ cZ s_o) (some (.int r)) (w_X4_part o cB cI cJ cZ s_o) := by
  refine met_of (by decide) (Nat.le_of_ble_eq_true rfl) ?_
  intro p e s m args below meth c A cx hr hA
  show gW p l e rm_X4_part s m args below meth c D A 3 _ 0 0 _ [(0, .ref (o 0)), (1, .int x1), (2, .int x2)] 0 []
  rw [F_X4_part] at hf
  refine g_aln cx 0 dX4_part_0 rfl ?_
  refine g_iln cx 1 dX4_part_1 rfl ?_
  refine ob hf (fun q_1 hq_1 hf => ?_)
  refine g_callVGiR cx lk_RX4_47 (c_X4_has l D cB cI cJ cZ o s_o x1 q_1 hq_1) rfl [0] rfl rfl (ci := 4) (q1 := 0) rfl rfl rfl (Nat.le_of_ble_eq_true rfl) ⟨rfl, rfl, Nat.le_of_ble_eq_true rfl, Nat.le_of_ble_eq_true rfl⟩ dX4_part_2 ?_
  refine g_if_ne (tgt := 10) cx hf dX4_part_5 rfl (fun hf => ?_) (fun hf => ?_)
  · refine g_iln cx 2 dX4_part_10 rfl ?_
    by_cases hx0 : x2 = 0
    · rw [if_pos hx0] at hf
      refine g_swIn (tgt := 36) cx 0 hx0 (by decide) dX4_part_11 (by decide) rfl rfl ?_
      refine g_aln cx 0 dX4_part_36 rfl ?_
      refine g_iln cx 1 dX4_part_37 rfl ?_
      refine ob hf (fun q_2 hq_2 hf => ?_)
      refine g_callVGiR cx lk_RX4_51 (c_X4_wordAt l D cB cI cJ cZ o s_o x1 q_2 hq_2) rfl [0] rfl rfl (ci := 4) (q1 := 0) rfl rfl rfl (Nat.le_of_ble_eq_true rfl) ⟨rfl, rfl, Nat.le_of_ble_eq_true rfl, Nat.le_of_ble_eq_true rfl⟩ dX4_part_38 ?_
      exact g_iret (ovf := fun (r : Int32) => (some (.int r))) (wf := fun (r : Int32) => (w_X4_part o cB cI cJ cZ s_o)) cx hA hr hf rfl rfl dX4_part_41
    rw [if_neg hx0] at hf
    by_cases hx1 : x2 = 1
    · rw [if_pos hx1] at hf
      refine g_swIn (tgt := 42) cx 1 hx1 (by decide) dX4_part_11 (by decide) rfl rfl ?_
      refine g_aln cx 0 dX4_part_42 rfl ?_
      refine g_iln cx 1 dX4_part_43 rfl ?_
      refine ob hf (fun q_3 hq_3 hf => ?_)
      refine g_callVGiR cx lk_RX4_55 (c_X4_thingAt l D cB cI cJ cZ o s_o x1 q_3 hq_3) rfl [0] rfl rfl (ci := 4) (q1 := 0) rfl rfl rfl (Nat.le_of_ble_eq_true rfl) ⟨rfl, rfl, Nat.le_of_ble_eq_true rfl, Nat.le_of_ble_eq_true rfl⟩ dX4_part_44 ?_
      exact g_iret (ovf := fun (r : Int32) => (some (.int r))) (wf := fun (r : Int32) => (w_X4_part o cB cI cJ cZ s_o)) cx hA hr hf rfl rfl dX4_part_47
    rw [if_neg hx1] at hf
    by_cases hx2 : x2 = 2
    · rw [if_pos hx2] at hf
      refine g_swIn (tgt := 48) cx 2 hx2 (by decide) dX4_part_11 (by decide) rfl rfl ?_
      refine g_aln cx 0 dX4_part_48 rfl ?_
      refine g_iln cx 1 dX4_part_49 rfl ?_
      refine ob hf (fun q_4 hq_4 hf => ?_)
      refine g_callVGiR cx lk_RX4_58 (c_X4_beforeAt l D cB cI cJ cZ o s_o x1 q_4 hq_4) rfl [0] rfl rfl (ci := 4) (q1 := 0) rfl rfl rfl (Nat.le_of_ble_eq_true rfl) ⟨rfl, rfl, Nat.le_of_ble_eq_true rfl, Nat.le_of_ble_eq_true rfl⟩ dX4_part_50 ?_
      exact g_iret (ovf := fun (r : Int32) => (some (.int r))) (wf := fun (r : Int32) => (w_X4_part o cB cI cJ cZ s_o)) cx hA hr hf rfl rfl dX4_part_53
    rw [if_neg hx2] at hf
    refine g_swOut (tgt := 54) cx 2 (sw_2 hx0 hx1 hx2) dX4_part_11 rfl ?_
    refine g_ic cx dX4_part_54 k_icm1 ?_
    exact g_iret (ovf := fun (r : Int32) => (some (.int r))) (wf := fun (r : Int32) => (w_X4_part o cB cI cJ cZ s_o)) cx hA hr hf rfl rfl dX4_part_55
  · refine g_ic cx dX4_part_8 k_icm1 ?_
    exact g_iret (ovf := fun (r : Int32) => (some (.int r))) (wf := fun (r : Int32) => (w_X4_part o cB cI cJ cZ s_o)) cx hA hr hf rfl rfl dX4_part_9
theorem dX4_lay_0 : decode cX4_lay 0 = .ok (.aload_n 0, 1) := by decide +kernel
theorem dX4_lay_1 : decode cX4_lay 1 = .ok (.getfield 9, 3) := by decide +kernel
theorem dX4_lay_4 : decode cX4_lay 4 = .ok (.iload_n 1, 1) := by decide +kernel
theorem dX4_lay_5 : decode cX4_lay 5 = .ok (.iload_n 2, 1) := by decide +kernel
theorem dX4_lay_6 : decode cX4_lay 6 = .ok (.invokestatic 43, 3) := by decide +kernel
theorem dX4_lay_9 : decode cX4_lay 9 = .ok (.aload_n 0, 1) := by decide +kernel
theorem dX4_lay_10 : decode cX4_lay 10 = .ok (.getfield 15, 3) := by decide +kernel
theorem dX4_lay_13 : decode cX4_lay 13 = .ok (.iload_n 1, 1) := by decide +kernel
theorem dX4_lay_14 : decode cX4_lay 14 = .ok (.iload_n 3, 1) := by decide +kernel
theorem dX4_lay_15 : decode cX4_lay 15 = .ok (.invokestatic 43, 3) := by decide +kernel
theorem dX4_lay_18 : decode cX4_lay 18 = .ok (.aload_n 0, 1) := by decide +kernel
theorem dX4_lay_19 : decode cX4_lay 19 = .ok (.getfield 18, 3) := by decide +kernel
theorem dX4_lay_22 : decode cX4_lay 22 = .ok (.iload_n 1, 1) := by decide +kernel
theorem dX4_lay_23 : decode cX4_lay 23 = .ok (.iload 4, 2) := by decide +kernel
theorem dX4_lay_25 : decode cX4_lay 25 = .ok (.invokestatic 43, 3) := by decide +kernel
theorem dX4_lay_28 : decode cX4_lay 28 = .ok (.return_, 1) := by decide +kernel


def F_X4_lay (s_o : S4) (x1 : Int32) (x2 : Int32) (x3 : Int32) (x4 : Int32) : Option (S4) := (F_X6_set 8 (s4_words s_o) x1 x2).bind fun q_1 => (F_X6_set 8 (s4_things (u4_words s_o q_1)) x1 x3).bind fun q_2 => (F_X6_set 8 (s4_befores (u4_things (u4_words s_o q_1) q_2)) x1 x4).bind fun q_3 => some ((u4_befores (u4_things (u4_words s_o q_1) q_2) q_3))
def w_X4_lay (o : Nat → Nat) (cB cI cJ cZ : ClassId) (s_o : S4) : va_W := List.flatten [(gX4 o cB cI cJ cZ s_o)]
abbrev rm_X4_lay : Room := { frames := 1, cells := 0, slots := 0, locals := 22 }
set_option maxHeartbeats 4000000 in
set_option maxRecDepth 100000 in
theorem c_X4_lay (l : Launch) (D : gG) (cB cI cJ cZ : ClassId) (o : Nat → Nat) (s_o : S4) (x1 : Int32) (x2 : Int32) (x3 : Int32) (x4 : Int32) (r : S4) (hf : F_X4_lay s_o x1 x2 x3 x4 = some r) : gM l D (tyL cB cI cJ cZ) yX4_lay cX4_lay 5 none rm_X4_lay [.ref (o 0), .int x1, .int x2, .int x3, .int x4] (w_X4_lay o cB cI cJ cZ s_o) none (w_X4_lay o cB cI cJ cZ r) := by
  refine met_of (by decide) (Nat.le_of_ble_eq_true rfl) ?_
  intro p e s m args below meth c A cx hr hA
  show gW p l e rm_X4_lay s m args below meth c D A 5 _ 0 0 _ [(0, .ref (o 0)), (1, .int x1), (2, .int x2), (3, .int x3), (4, .int x4)] 0 []
  rw [F_X4_lay] at hf
  refine g_aln cx 0 dX4_lay_0 rfl ?_
  refine fg_RX4_9 cx 0 rfl rfl dX4_lay_1 ?_
  refine g_iln cx 1 dX4_lay_4 rfl ?_
  refine g_iln cx 2 dX4_lay_5 rfl ?_
  refine ob hf (fun q_1 hq_1 hf => ?_)
  refine g_callSv cx lk_RX4_43 (c_X6_set l D cB cI cJ cZ (o 1) 8 (s4_words s_o) x1 x2 q_1 hq_1) rfl [1] rfl rfl (ws' := (w_X4_lay o cB cI cJ cZ (u4_words s_o q_1))) rfl rfl rfl (Nat.le_of_ble_eq_true rfl) ⟨rfl, rfl, Nat.le_of_ble_eq_true rfl, Nat.le_of_ble_eq_true rfl⟩ dX4_lay_6 ?_
  refine g_aln cx 0 dX4_lay_9 rfl ?_
  refine fg_RX4_15 cx 0 rfl rfl dX4_lay_10 ?_
  refine g_iln cx 1 dX4_lay_13 rfl ?_
  refine g_iln cx 3 dX4_lay_14 rfl ?_
  refine ob hf (fun q_2 hq_2 hf => ?_)
  refine g_callSv cx lk_RX4_43 (c_X6_set l D cB cI cJ cZ (o 2) 8 (s4_things (u4_words s_o q_1)) x1 x3 q_2 hq_2) rfl [2] rfl rfl (ws' := (w_X4_lay o cB cI cJ cZ (u4_things (u4_words s_o q_1) q_2))) rfl rfl rfl (Nat.le_of_ble_eq_true rfl) ⟨rfl, rfl, Nat.le_of_ble_eq_true rfl, Nat.le_of_ble_eq_true rfl⟩ dX4_lay_15 ?_
  refine g_aln cx 0 dX4_lay_18 rfl ?_
  refine fg_RX4_18 cx 0 rfl rfl dX4_lay_19 ?_
  refine g_iln cx 1 dX4_lay_22 rfl ?_
  refine g_il cx 4 dX4_lay_23 rfl ?_
  refine ob hf (fun q_3 hq_3 hf => ?_)
  refine g_callSv cx lk_RX4_43 (c_X6_set l D cB cI cJ cZ (o 3) 8 (s4_befores (u4_things (u4_words s_o q_1) q_2)) x1 x4 q_3 hq_3) rfl [3] rfl rfl (ws' := (w_X4_lay o cB cI cJ cZ (u4_befores (u4_things (u4_words s_o q_1) q_2) q_3))) rfl rfl rfl (Nat.le_of_ble_eq_true rfl) ⟨rfl, rfl, Nat.le_of_ble_eq_true rfl, Nat.le_of_ble_eq_true rfl⟩ dX4_lay_25 ?_
  exact g_vret (ovf := fun (r : S4) => none) (wf := fun (r : S4) => (w_X4_lay o cB cI cJ cZ r)) cx hA hr hf rfl rfl dX4_lay_28
theorem dX4_insert_0 : decode cX4_insert 0 = .ok (.aload_n 0, 1) := by decide +kernel
theorem dX4_insert_1 : decode cX4_insert 1 = .ok (.invokevirtual 61, 3) := by decide +kernel
theorem dX4_insert_4 : decode cX4_insert 4 = .ok (.ifCond .ne 15, 3) := by decide +kernel
theorem dX4_insert_7 : decode cX4_insert 7 = .ok (.iload_n 1, 1) := by decide +kernel
theorem dX4_insert_8 : decode cX4_insert 8 = .ok (.ifCond .lt 11, 3) := by decide +kernel
theorem dX4_insert_11 : decode cX4_insert 11 = .ok (.iload_n 1, 1) := by decide +kernel
theorem dX4_insert_12 : decode cX4_insert 12 = .ok (.aload_n 0, 1) := by decide +kernel
theorem dX4_insert_13 : decode cX4_insert 13 = .ok (.getfield 31, 3) := by decide +kernel
theorem dX4_insert_16 : decode cX4_insert 16 = .ok (.if_icmp .le 4, 3) := by decide +kernel
theorem dX4_insert_19 : decode cX4_insert 19 = .ok (.return_, 1) := by decide +kernel
theorem dX4_insert_20 : decode cX4_insert 20 = .ok (.aload_n 0, 1) := by decide +kernel
theorem dX4_insert_21 : decode cX4_insert 21 = .ok (.getfield 31, 3) := by decide +kernel
theorem dX4_insert_24 : decode cX4_insert 24 = .ok (.istore 5, 2) := by decide +kernel
theorem dX4_insert_26 : decode cX4_insert 26 = .ok (.iload 5, 2) := by decide +kernel
theorem dX4_insert_28 : decode cX4_insert 28 = .ok (.iload_n 1, 1) := by decide +kernel
theorem dX4_insert_29 : decode cX4_insert 29 = .ok (.if_icmp .le 39, 3) := by decide +kernel
theorem dX4_insert_32 : decode cX4_insert 32 = .ok (.aload_n 0, 1) := by decide +kernel
theorem dX4_insert_33 : decode cX4_insert 33 = .ok (.iload 5, 2) := by decide +kernel
theorem dX4_insert_35 : decode cX4_insert 35 = .ok (.aload_n 0, 1) := by decide +kernel
theorem dX4_insert_36 : decode cX4_insert 36 = .ok (.iload 5, 2) := by decide +kernel
theorem dX4_insert_38 : decode cX4_insert 38 = .ok (.iconst 1, 1) := by decide +kernel
theorem dX4_insert_39 : decode cX4_insert 39 = .ok (.isub, 1) := by decide +kernel
theorem dX4_insert_40 : decode cX4_insert 40 = .ok (.invokevirtual 51, 3) := by decide +kernel
theorem dX4_insert_43 : decode cX4_insert 43 = .ok (.aload_n 0, 1) := by decide +kernel
theorem dX4_insert_44 : decode cX4_insert 44 = .ok (.iload 5, 2) := by decide +kernel
theorem dX4_insert_46 : decode cX4_insert 46 = .ok (.iconst 1, 1) := by decide +kernel
theorem dX4_insert_47 : decode cX4_insert 47 = .ok (.isub, 1) := by decide +kernel
theorem dX4_insert_48 : decode cX4_insert 48 = .ok (.invokevirtual 55, 3) := by decide +kernel
theorem dX4_insert_51 : decode cX4_insert 51 = .ok (.aload_n 0, 1) := by decide +kernel
theorem dX4_insert_52 : decode cX4_insert 52 = .ok (.iload 5, 2) := by decide +kernel
theorem dX4_insert_54 : decode cX4_insert 54 = .ok (.iconst 1, 1) := by decide +kernel
theorem dX4_insert_55 : decode cX4_insert 55 = .ok (.isub, 1) := by decide +kernel
theorem dX4_insert_56 : decode cX4_insert 56 = .ok (.invokevirtual 58, 3) := by decide +kernel
theorem dX4_insert_59 : decode cX4_insert 59 = .ok (.invokevirtual 65, 3) := by decide +kernel
theorem dX4_insert_62 : decode cX4_insert 62 = .ok (.iinc 5 (-1), 3) := by decide +kernel
theorem dX4_insert_65 : decode cX4_insert 65 = .ok (.goto (-39), 3) := by decide +kernel
theorem dX4_insert_68 : decode cX4_insert 68 = .ok (.aload_n 0, 1) := by decide +kernel
theorem dX4_insert_69 : decode cX4_insert 69 = .ok (.iload_n 1, 1) := by decide +kernel
theorem dX4_insert_70 : decode cX4_insert 70 = .ok (.iload_n 2, 1) := by decide +kernel
theorem dX4_insert_71 : decode cX4_insert 71 = .ok (.iload_n 3, 1) := by decide +kernel
theorem dX4_insert_72 : decode cX4_insert 72 = .ok (.iload 4, 2) := by decide +kernel
theorem dX4_insert_74 : decode cX4_insert 74 = .ok (.invokevirtual 65, 3) := by decide +kernel
theorem dX4_insert_77 : decode cX4_insert 77 = .ok (.aload_n 0, 1) := by decide +kernel
theorem dX4_insert_78 : decode cX4_insert 78 = .ok (.dup, 1) := by decide +kernel
theorem dX4_insert_79 : decode cX4_insert 79 = .ok (.getfield 31, 3) := by decide +kernel
theorem dX4_insert_82 : decode cX4_insert 82 = .ok (.iconst 1, 1) := by decide +kernel
theorem dX4_insert_83 : decode cX4_insert 83 = .ok (.iadd, 1) := by decide +kernel
theorem dX4_insert_84 : decode cX4_insert 84 = .ok (.putfield 31, 3) := by decide +kernel
theorem dX4_insert_87 : decode cX4_insert 87 = .ok (.return_, 1) := by decide +kernel
theorem k_incm1 (x : Int32) : x + Int32.ofInt (-1) = x - 1 := by rw [show Int32.ofInt (-1) = -1 from by decide]; exact (Int32.sub_eq_add_neg x 1).symm
theorem q0_2 : Cond.selects RX4 yX4_lay yX4_lay ∈ TT := tq0 2 rfl rfl
theorem q2_223 : Cond.instanceMethod yX4_isFull ∈ TT := tq2 223 rfl rfl
theorem q2_224 : Cond.selects RX4 yX4_isFull yX4_isFull ∈ TT := tq2 224 rfl rfl
theorem q2_225 : Cond.code yX4_isFull cX4_isFull 1 (some .boolean) ∈ TT := tq2 225 rfl rfl
theorem q2_238 : Cond.methodLink RX4 61 yX4_isFull ∈ TT := tq2 238 rfl rfl
theorem q3_12 : Cond.methodLink RX4 65 yX4_lay ∈ TT := tq3 12 rfl rfl
theorem q3_14 : Cond.instanceMethod yX4_lay ∈ TT := tq3 14 rfl rfl
theorem q3_15 : Cond.code yX4_lay cX4_lay 5 none ∈ TT := tq3 15 rfl rfl
theorem lk_RX4_65 : vlk RX4 65 yX4_lay cX4_lay 5 none 4 := ⟨List.forall_mem_cons.mpr ⟨q3_12, List.forall_mem_cons.mpr ⟨q3_14, List.forall_mem_cons.mpr ⟨q0_2, List.forall_mem_cons.mpr ⟨q1_4, fun _ h => absurd h List.not_mem_nil⟩⟩⟩⟩, q3_15, by decide, by decide, by decide +kernel⟩
theorem lk_RX4_61 : vlk RX4 61 yX4_isFull cX4_isFull 1 (some .boolean) 0 := ⟨List.forall_mem_cons.mpr ⟨q2_238, List.forall_mem_cons.mpr ⟨q2_223, List.forall_mem_cons.mpr ⟨q2_224, List.forall_mem_cons.mpr ⟨q1_4, fun _ h => absurd h List.not_mem_nil⟩⟩⟩⟩, q2_225, by decide, by decide, by decide +kernel⟩
def F_X4_insert_b26 (x1 : Int32) (x2 : Int32) (x3 : Int32) (x4 : Int32) : Nat → Int32 → S4 → Option (S4)
  | 0, _, _ => none
  | n + 1, v5, zs_o => (if v5 ≤ x1 then (F_X4_lay zs_o x1 x2 x3 x4).bind fun q_1 => nm (u4_size q_1 ((s4_size q_1) + 1)) fun s_o_2 => some (s_o_2) else (F_X4_wordAt zs_o (v5 - 1)).bind fun q_3 => (F_X4_thingAt zs_o (v5 - 1)).bind fun q_4 => (F_X4_beforeAt zs_o (v5 - 1)).bind fun q_5 => (F_X4_lay zs_o v5 q_3 q_4 q_5).bind fun q_6 => nm (v5 - 1) fun v5_7 => (F_X4_insert_b26 x1 x2 x3 x4 n) v5_7 q_6)
def F_X4_insert (s_o : S4) (x1 : Int32) (x2 : Int32) (x3 : Int32) (x4 : Int32) : Option (S4) := (F_X4_isFull s_o).bind fun q_8 => (if q_8 = 0 then (if x1 < 0 then some (s_o) else (if x1 ≤ (s4_size s_o) then nm (s4_size s_o) fun v5_9 => F_X4_insert_b26 x1 x2 x3 x4 fu v5_9 s_o else some (s_o))) else some (s_o))
def w_X4_insert (o : Nat → Nat) (cB cI cJ cZ : ClassId) (s_o : S4) : va_W := List.flatten [(gX4 o cB cI cJ cZ s_o)]
abbrev rm_X4_insert : Room := { frames := 2, cells := 0, slots := 0, locals := 46 }
set_option maxHeartbeats 4000000 in
set_option maxRecDepth 100000 in
theorem c_X4_insert (l : Launch) (D : gG) (cB cI cJ cZ : ClassId) (o : Nat → Nat) (s_o : S4) (x1 : Int32) (x2 : Int32) (x3 : Int32) (x4 : Int32) (r : S4) (hf : F_X4_insert s_o x1 x2 x3 x4 = some r) : gM l D (tyL cB cI cJ cZ) yX4_insert cX4_insert 6 none rm_X4_insert [.ref (o 0), .int x1, .int x2, .int x3, .int x4] (w_X4_insert o cB cI cJ cZ s_o) none (w_X4_insert o cB cI cJ cZ r) := by
  refine met_of (by decide) (Nat.le_of_ble_eq_true rfl) ?_
  intro p e s m args below meth c A cx hr hA
  show gW p l e rm_X4_insert s m args below meth c D A 6 _ 0 0 _ [(0, .ref (o 0)), (1, .int x1), (2, .int x2), (3, .int x3), (4, .int x4)] 0 []
  have h26 : ∀ (n : Nat) (v5 : Int32) (zs_o : S4), F_X4_insert_b26 x1 x2 x3 x4 n v5 zs_o = some r → gW p l e rm_X4_insert s m args below meth c D A 6 (MQ below (QM D (tyL cB cI cJ cZ) none (w_X4_insert o cB cI cJ cZ s_o) (w_X4_insert o cB cI cJ cZ r) s.heap.size) args s 0 0 A) 0 0 (w_X4_insert o cB cI cJ cZ zs_o) [(0, .ref (o 0)), (1, .int x1), (2, .int x2), (3, .int x3), (4, .int x4), (5, .int v5)] 26 [] := by
    intro n
    induction n with
    | zero => intro v5 zs_o hf; rw [F_X4_insert_b26] at hf; cases hf
    | succ n ih =>
      intro v5 zs_o hf
      rw [F_X4_insert_b26] at hf
      refine g_il cx 5 dX4_insert_26 rfl ?_
      refine g_iln cx 1 dX4_insert_28 rfl ?_
      refine g_ic_le (tgt := 68) cx hf dX4_insert_29 rfl (fun hf => ?_) (fun hf => ?_)
      · refine g_aln cx 0 dX4_insert_68 rfl ?_
        refine g_iln cx 1 dX4_insert_69 rfl ?_
        refine g_iln cx 2 dX4_insert_70 rfl ?_
        refine g_iln cx 3 dX4_insert_71 rfl ?_
        refine g_il cx 4 dX4_insert_72 rfl ?_
        refine ob hf (fun q_1 hq_1 hf => ?_)
        refine g_callVGv (gs' := [(gX4 o cB cI cJ cZ q_1)]) cx lk_RX4_65 (c_X4_lay l D cB cI cJ cZ o zs_o x1 x2 x3 x4 q_1 hq_1) rfl [0] rfl rfl rfl rfl (ci := 4) (q1 := 0) rfl rfl rfl (Nat.le_of_ble_eq_true rfl) ⟨rfl, rfl, Nat.le_of_ble_eq_true rfl, Nat.le_of_ble_eq_true rfl⟩ dX4_insert_74 ?_
        refine g_aln cx 0 dX4_insert_77 rfl ?_
        refine g_dup cx dX4_insert_78 rfl ?_
        refine fg_RX4_31 cx 0 rfl rfl dX4_insert_79 ?_
        refine g_ic cx dX4_insert_82 k_ic1 ?_
        refine g_iadd cx dX4_insert_83 ?_
        refine fp_RX4_31 cx 0 rfl (Nat.le_of_ble_eq_true rfl) (ws' := (w_X4_insert o cB cI cJ cZ (u4_size q_1 ((s4_size q_1) + 1)))) rfl dX4_insert_84 ?_
        refine g_nm (w := fun s_o_2 => (w_X4_insert o cB cI cJ cZ s_o_2)) hf (fun s_o_2 hf => ?_)
        exact g_vret (ovf := fun (r : S4) => none) (wf := fun (r : S4) => (w_X4_insert o cB cI cJ cZ r)) cx hA hr hf rfl rfl dX4_insert_87
      · refine g_aln cx 0 dX4_insert_32 rfl ?_
        refine g_il cx 5 dX4_insert_33 rfl ?_
        refine g_aln cx 0 dX4_insert_35 rfl ?_
        refine g_il cx 5 dX4_insert_36 rfl ?_
        refine g_ic cx dX4_insert_38 k_ic1 ?_
        refine g_isub cx dX4_insert_39 ?_
        refine ob hf (fun q_3 hq_3 hf => ?_)
        refine g_callVGiR cx lk_RX4_51 (c_X4_wordAt l D cB cI cJ cZ o zs_o (v5 - 1) q_3 hq_3) rfl [0] rfl rfl (ci := 4) (q1 := 0) rfl rfl rfl (Nat.le_of_ble_eq_true rfl) ⟨rfl, rfl, Nat.le_of_ble_eq_true rfl, Nat.le_of_ble_eq_true rfl⟩ dX4_insert_40 ?_
        refine g_aln cx 0 dX4_insert_43 rfl ?_
        refine g_il cx 5 dX4_insert_44 rfl ?_
        refine g_ic cx dX4_insert_46 k_ic1 ?_
        refine g_isub cx dX4_insert_47 ?_
        refine ob hf (fun q_4 hq_4 hf => ?_)
        refine g_callVGiR cx lk_RX4_55 (c_X4_thingAt l D cB cI cJ cZ o zs_o (v5 - 1) q_4 hq_4) rfl [0] rfl rfl (ci := 4) (q1 := 0) rfl rfl rfl (Nat.le_of_ble_eq_true rfl) ⟨rfl, rfl, Nat.le_of_ble_eq_true rfl, Nat.le_of_ble_eq_true rfl⟩ dX4_insert_48 ?_
        refine g_aln cx 0 dX4_insert_51 rfl ?_
        refine g_il cx 5 dX4_insert_52 rfl ?_
        refine g_ic cx dX4_insert_54 k_ic1 ?_
        refine g_isub cx dX4_insert_55 ?_
        refine ob hf (fun q_5 hq_5 hf => ?_)
        refine g_callVGiR cx lk_RX4_58 (c_X4_beforeAt l D cB cI cJ cZ o zs_o (v5 - 1) q_5 hq_5) rfl [0] rfl rfl (ci := 4) (q1 := 0) rfl rfl rfl (Nat.le_of_ble_eq_true rfl) ⟨rfl, rfl, Nat.le_of_ble_eq_true rfl, Nat.le_of_ble_eq_true rfl⟩ dX4_insert_56 ?_
        refine ob hf (fun q_6 hq_6 hf => ?_)
        refine g_callVGv (gs' := [(gX4 o cB cI cJ cZ q_6)]) cx lk_RX4_65 (c_X4_lay l D cB cI cJ cZ o zs_o v5 q_3 q_4 q_5 q_6 hq_6) rfl [0] rfl rfl rfl rfl (ci := 4) (q1 := 0) rfl rfl rfl (Nat.le_of_ble_eq_true rfl) ⟨rfl, rfl, Nat.le_of_ble_eq_true rfl, Nat.le_of_ble_eq_true rfl⟩ dX4_insert_59 ?_
        refine g_inc cx (L2 := fun v5_7 => [(5, .int v5_7), (0, .ref (o 0)), (1, .int x1), (2, .int x2), (3, .int x3), (4, .int x4)]) 5 hf dX4_insert_62 rfl (k_incm1 _) (Nat.le_of_ble_eq_true rfl) (fun _ => rfl) (fun v5_7 hf => ?_)
        refine g_goto (tgt := 26) cx dX4_insert_65 rfl ?_
        refine g_sub [1, 2, 3, 4, 5, 0] rfl ?_
        exact ih _ _ hf
  rw [F_X4_insert] at hf
  refine g_aln cx 0 dX4_insert_0 rfl ?_
  refine ob hf (fun q_8 hq_8 hf => ?_)
  refine g_callVGiR cx lk_RX4_61 (c_X4_isFull l D cB cI cJ cZ o s_o q_8 hq_8) rfl [0] rfl rfl (ci := 4) (q1 := 0) rfl rfl rfl (Nat.le_of_ble_eq_true rfl) ⟨rfl, rfl, Nat.le_of_ble_eq_true rfl, Nat.le_of_ble_eq_true rfl⟩ dX4_insert_1 ?_
  refine g_if_ne (tgt := 19) cx hf dX4_insert_4 rfl (fun hf => ?_) (fun hf => ?_)
  · exact g_vret (ovf := fun (r : S4) => none) (wf := fun (r : S4) => (w_X4_insert o cB cI cJ cZ r)) cx hA hr hf rfl rfl dX4_insert_19
  · refine g_iln cx 1 dX4_insert_7 rfl ?_
    refine g_if_lt (tgt := 19) cx hf dX4_insert_8 rfl (fun hf => ?_) (fun hf => ?_)
    · exact g_vret (ovf := fun (r : S4) => none) (wf := fun (r : S4) => (w_X4_insert o cB cI cJ cZ r)) cx hA hr hf rfl rfl dX4_insert_19
    · refine g_iln cx 1 dX4_insert_11 rfl ?_
      refine g_aln cx 0 dX4_insert_12 rfl ?_
      refine fg_RX4_31 cx 0 rfl rfl dX4_insert_13 ?_
      refine g_ic_le (tgt := 20) cx hf dX4_insert_16 rfl (fun hf => ?_) (fun hf => ?_)
      · refine g_aln cx 0 dX4_insert_20 rfl ?_
        refine fg_RX4_31 cx 0 rfl rfl dX4_insert_21 ?_
        refine g_is cx (L2 := fun v5_9 => [(5, .int v5_9), (0, .ref (o 0)), (1, .int x1), (2, .int x2), (3, .int x3), (4, .int x4)]) hf dX4_insert_24 (Nat.le_of_ble_eq_true rfl) (fun _ => rfl) (fun v5_9 hf => ?_)
        refine g_sub [1, 2, 3, 4, 5, 0] rfl ?_
        exact h26 fu _ _ hf
      · exact g_vret (ovf := fun (r : S4) => none) (wf := fun (r : S4) => (w_X4_insert o cB cI cJ cZ r)) cx hA hr hf rfl rfl dX4_insert_19
theorem dX4_remove_0 : decode cX4_remove 0 = .ok (.aload_n 0, 1) := by decide +kernel
theorem dX4_remove_1 : decode cX4_remove 1 = .ok (.iload_n 1, 1) := by decide +kernel
theorem dX4_remove_2 : decode cX4_remove 2 = .ok (.invokevirtual 47, 3) := by decide +kernel
theorem dX4_remove_5 : decode cX4_remove 5 = .ok (.ifCond .ne 4, 3) := by decide +kernel
theorem dX4_remove_8 : decode cX4_remove 8 = .ok (.return_, 1) := by decide +kernel
theorem dX4_remove_9 : decode cX4_remove 9 = .ok (.iload_n 1, 1) := by decide +kernel
theorem dX4_remove_10 : decode cX4_remove 10 = .ok (.istore_n 2, 1) := by decide +kernel
theorem dX4_remove_11 : decode cX4_remove 11 = .ok (.iload_n 2, 1) := by decide +kernel
theorem dX4_remove_12 : decode cX4_remove 12 = .ok (.aload_n 0, 1) := by decide +kernel
theorem dX4_remove_13 : decode cX4_remove 13 = .ok (.getfield 31, 3) := by decide +kernel
theorem dX4_remove_16 : decode cX4_remove 16 = .ok (.iconst 1, 1) := by decide +kernel
theorem dX4_remove_17 : decode cX4_remove 17 = .ok (.isub, 1) := by decide +kernel
theorem dX4_remove_18 : decode cX4_remove 18 = .ok (.if_icmp .ge 35, 3) := by decide +kernel
theorem dX4_remove_21 : decode cX4_remove 21 = .ok (.aload_n 0, 1) := by decide +kernel
theorem dX4_remove_22 : decode cX4_remove 22 = .ok (.iload_n 2, 1) := by decide +kernel
theorem dX4_remove_23 : decode cX4_remove 23 = .ok (.aload_n 0, 1) := by decide +kernel
theorem dX4_remove_24 : decode cX4_remove 24 = .ok (.iload_n 2, 1) := by decide +kernel
theorem dX4_remove_25 : decode cX4_remove 25 = .ok (.iconst 1, 1) := by decide +kernel
theorem dX4_remove_26 : decode cX4_remove 26 = .ok (.iadd, 1) := by decide +kernel
theorem dX4_remove_27 : decode cX4_remove 27 = .ok (.invokevirtual 51, 3) := by decide +kernel
theorem dX4_remove_30 : decode cX4_remove 30 = .ok (.aload_n 0, 1) := by decide +kernel
theorem dX4_remove_31 : decode cX4_remove 31 = .ok (.iload_n 2, 1) := by decide +kernel
theorem dX4_remove_32 : decode cX4_remove 32 = .ok (.iconst 1, 1) := by decide +kernel
theorem dX4_remove_33 : decode cX4_remove 33 = .ok (.iadd, 1) := by decide +kernel
theorem dX4_remove_34 : decode cX4_remove 34 = .ok (.invokevirtual 55, 3) := by decide +kernel
theorem dX4_remove_37 : decode cX4_remove 37 = .ok (.aload_n 0, 1) := by decide +kernel
theorem dX4_remove_38 : decode cX4_remove 38 = .ok (.iload_n 2, 1) := by decide +kernel
theorem dX4_remove_39 : decode cX4_remove 39 = .ok (.iconst 1, 1) := by decide +kernel
theorem dX4_remove_40 : decode cX4_remove 40 = .ok (.iadd, 1) := by decide +kernel
theorem dX4_remove_41 : decode cX4_remove 41 = .ok (.invokevirtual 58, 3) := by decide +kernel
theorem dX4_remove_44 : decode cX4_remove 44 = .ok (.invokevirtual 65, 3) := by decide +kernel
theorem dX4_remove_47 : decode cX4_remove 47 = .ok (.iinc 2 1, 3) := by decide +kernel
theorem dX4_remove_50 : decode cX4_remove 50 = .ok (.goto (-39), 3) := by decide +kernel
theorem dX4_remove_53 : decode cX4_remove 53 = .ok (.aload_n 0, 1) := by decide +kernel
theorem dX4_remove_54 : decode cX4_remove 54 = .ok (.dup, 1) := by decide +kernel
theorem dX4_remove_55 : decode cX4_remove 55 = .ok (.getfield 31, 3) := by decide +kernel
theorem dX4_remove_58 : decode cX4_remove 58 = .ok (.iconst 1, 1) := by decide +kernel
theorem dX4_remove_59 : decode cX4_remove 59 = .ok (.isub, 1) := by decide +kernel
theorem dX4_remove_60 : decode cX4_remove 60 = .ok (.putfield 31, 3) := by decide +kernel
theorem dX4_remove_63 : decode cX4_remove 63 = .ok (.return_, 1) := by decide +kernel
theorem k_inc1 (x : Int32) : x + Int32.ofInt (1) = x + 1 := by rfl


def F_X4_remove_b11 (x1 : Int32) : Nat → Int32 → S4 → Option (S4)
  | 0, _, _ => none
  | n + 1, v2, zs_o => (if ((s4_size zs_o) - 1) ≤ v2 then nm (u4_size zs_o ((s4_size zs_o) - 1)) fun s_o_1 => some (s_o_1) else (F_X4_wordAt zs_o (v2 + 1)).bind fun q_2 => (F_X4_thingAt zs_o (v2 + 1)).bind fun q_3 => (F_X4_beforeAt zs_o (v2 + 1)).bind fun q_4 => (F_X4_lay zs_o v2 q_2 q_3 q_4).bind fun q_5 => nm (v2 + 1) fun v2_6 => (F_X4_remove_b11 x1 n) v2_6 q_5)
def F_X4_remove (s_o : S4) (x1 : Int32) : Option (S4) := (F_X4_has s_o x1).bind fun q_7 => (if q_7 = 0 then some (s_o) else nm x1 fun v2_8 => F_X4_remove_b11 x1 fu v2_8 s_o)
def w_X4_remove (o : Nat → Nat) (cB cI cJ cZ : ClassId) (s_o : S4) : va_W := List.flatten [(gX4 o cB cI cJ cZ s_o)]
abbrev rm_X4_remove : Room := { frames := 2, cells := 0, slots := 0, locals := 46 }
set_option maxHeartbeats 4000000 in
set_option maxRecDepth 100000 in
theorem c_X4_remove (l : Launch) (D : gG) (cB cI cJ cZ : ClassId) (o : Nat → Nat) (s_o : S4) (x1 : Int32) (r : S4) (hf : F_X4_remove s_o x1 = some r) : gM l D (tyL cB cI cJ cZ) yX4_remove cX4_remove 3 none rm_X4_remove [.ref (o 0), .int x1] (w_X4_remove o cB cI cJ cZ s_o) none (w_X4_remove o cB cI cJ cZ r) := by
  refine met_of (by decide) (Nat.le_of_ble_eq_true rfl) ?_
  intro p e s m args below meth c A cx hr hA
  show gW p l e rm_X4_remove s m args below meth c D A 3 _ 0 0 _ [(0, .ref (o 0)), (1, .int x1)] 0 []
  have h11 : ∀ (n : Nat) (v2 : Int32) (zs_o : S4), F_X4_remove_b11 x1 n v2 zs_o = some r → gW p l e rm_X4_remove s m args below meth c D A 3 (MQ below (QM D (tyL cB cI cJ cZ) none (w_X4_remove o cB cI cJ cZ s_o) (w_X4_remove o cB cI cJ cZ r) s.heap.size) args s 0 0 A) 0 0 (w_X4_remove o cB cI cJ cZ zs_o) [(0, .ref (o 0)), (2, .int v2)] 11 [] := by
    intro n
    induction n with
    | zero => intro v2 zs_o hf; rw [F_X4_remove_b11] at hf; cases hf
    | succ n ih =>
      intro v2 zs_o hf
      rw [F_X4_remove_b11] at hf
      refine g_iln cx 1 dX4_remove_11 rfl ?_
      refine g_aln cx 0 dX4_remove_12 rfl ?_
      refine fg_RX4_31 cx 0 rfl rfl dX4_remove_13 ?_
      refine g_ic cx dX4_remove_16 k_ic1 ?_
      refine g_isub cx dX4_remove_17 ?_
      refine g_ic_ge (tgt := 53) cx hf dX4_remove_18 rfl (fun hf => ?_) (fun hf => ?_)
      · refine g_aln cx 0 dX4_remove_53 rfl ?_
        refine g_dup cx dX4_remove_54 rfl ?_
        refine fg_RX4_31 cx 0 rfl rfl dX4_remove_55 ?_
        refine g_ic cx dX4_remove_58 k_ic1 ?_
        refine g_isub cx dX4_remove_59 ?_
        refine fp_RX4_31 cx 0 rfl (Nat.le_of_ble_eq_true rfl) (ws' := (w_X4_remove o cB cI cJ cZ (u4_size zs_o ((s4_size zs_o) - 1)))) rfl dX4_remove_60 ?_
        refine g_nm (w := fun s_o_1 => (w_X4_remove o cB cI cJ cZ s_o_1)) hf (fun s_o_1 hf => ?_)
        exact g_vret (ovf := fun (r : S4) => none) (wf := fun (r : S4) => (w_X4_remove o cB cI cJ cZ r)) cx hA hr hf rfl rfl dX4_remove_63
      · refine g_aln cx 0 dX4_remove_21 rfl ?_
        refine g_iln cx 1 dX4_remove_22 rfl ?_
        refine g_aln cx 0 dX4_remove_23 rfl ?_
        refine g_iln cx 1 dX4_remove_24 rfl ?_
        refine g_ic cx dX4_remove_25 k_ic1 ?_
        refine g_iadd cx dX4_remove_26 ?_
        refine ob hf (fun q_2 hq_2 hf => ?_)
        refine g_callVGiR cx lk_RX4_51 (c_X4_wordAt l D cB cI cJ cZ o zs_o (v2 + 1) q_2 hq_2) rfl [0] rfl rfl (ci := 4) (q1 := 0) rfl rfl rfl (Nat.le_of_ble_eq_true rfl) ⟨rfl, rfl, Nat.le_of_ble_eq_true rfl, Nat.le_of_ble_eq_true rfl⟩ dX4_remove_27 ?_
        refine g_aln cx 0 dX4_remove_30 rfl ?_
        refine g_iln cx 1 dX4_remove_31 rfl ?_
        refine g_ic cx dX4_remove_32 k_ic1 ?_
        refine g_iadd cx dX4_remove_33 ?_
        refine ob hf (fun q_3 hq_3 hf => ?_)
        refine g_callVGiR cx lk_RX4_55 (c_X4_thingAt l D cB cI cJ cZ o zs_o (v2 + 1) q_3 hq_3) rfl [0] rfl rfl (ci := 4) (q1 := 0) rfl rfl rfl (Nat.le_of_ble_eq_true rfl) ⟨rfl, rfl, Nat.le_of_ble_eq_true rfl, Nat.le_of_ble_eq_true rfl⟩ dX4_remove_34 ?_
        refine g_aln cx 0 dX4_remove_37 rfl ?_
        refine g_iln cx 1 dX4_remove_38 rfl ?_
        refine g_ic cx dX4_remove_39 k_ic1 ?_
        refine g_iadd cx dX4_remove_40 ?_
        refine ob hf (fun q_4 hq_4 hf => ?_)
        refine g_callVGiR cx lk_RX4_58 (c_X4_beforeAt l D cB cI cJ cZ o zs_o (v2 + 1) q_4 hq_4) rfl [0] rfl rfl (ci := 4) (q1 := 0) rfl rfl rfl (Nat.le_of_ble_eq_true rfl) ⟨rfl, rfl, Nat.le_of_ble_eq_true rfl, Nat.le_of_ble_eq_true rfl⟩ dX4_remove_41 ?_
        refine ob hf (fun q_5 hq_5 hf => ?_)
        refine g_callVGv (gs' := [(gX4 o cB cI cJ cZ q_5)]) cx lk_RX4_65 (c_X4_lay l D cB cI cJ cZ o zs_o v2 q_2 q_3 q_4 q_5 hq_5) rfl [0] rfl rfl rfl rfl (ci := 4) (q1 := 0) rfl rfl rfl (Nat.le_of_ble_eq_true rfl) ⟨rfl, rfl, Nat.le_of_ble_eq_true rfl, Nat.le_of_ble_eq_true rfl⟩ dX4_remove_44 ?_
        refine g_inc cx (L2 := fun v2_6 => [(2, .int v2_6), (0, .ref (o 0))]) 1 hf dX4_remove_47 rfl (k_inc1 _) (Nat.le_of_ble_eq_true rfl) (fun _ => rfl) (fun v2_6 hf => ?_)
        refine g_goto (tgt := 11) cx dX4_remove_50 rfl ?_
        refine g_sub [1, 0] rfl ?_
        exact ih _ _ hf
  rw [F_X4_remove] at hf
  refine g_aln cx 0 dX4_remove_0 rfl ?_
  refine g_iln cx 1 dX4_remove_1 rfl ?_
  refine ob hf (fun q_7 hq_7 hf => ?_)
  refine g_callVGiR cx lk_RX4_47 (c_X4_has l D cB cI cJ cZ o s_o x1 q_7 hq_7) rfl [0] rfl rfl (ci := 4) (q1 := 0) rfl rfl rfl (Nat.le_of_ble_eq_true rfl) ⟨rfl, rfl, Nat.le_of_ble_eq_true rfl, Nat.le_of_ble_eq_true rfl⟩ dX4_remove_2 ?_
  refine g_if_ne (tgt := 9) cx hf dX4_remove_5 rfl (fun hf => ?_) (fun hf => ?_)
  · refine g_iln cx 1 dX4_remove_9 rfl ?_
    refine g_isn cx (L2 := fun v2_8 => [(2, .int v2_8), (0, .ref (o 0)), (1, .int x1)]) hf dX4_remove_10 (Nat.le_of_ble_eq_true rfl) (fun _ => rfl) (fun v2_8 hf => ?_)
    refine g_sub [1, 0] rfl ?_
    exact h11 fu _ _ hf
  · exact g_vret (ovf := fun (r : S4) => none) (wf := fun (r : S4) => (w_X4_remove o cB cI cJ cZ r)) cx hA hr hf rfl rfl dX4_remove_8
theorem dX4_copyFrom_0 : decode cX4_copyFrom 0 = .ok (.aload_n 0, 1) := by decide +kernel
theorem dX4_copyFrom_1 : decode cX4_copyFrom 1 = .ok (.aload_n 1, 1) := by decide +kernel
theorem dX4_copyFrom_2 : decode cX4_copyFrom 2 = .ok (.invokevirtual 69, 3) := by decide +kernel
theorem dX4_copyFrom_5 : decode cX4_copyFrom 5 = .ok (.aload_n 0, 1) := by decide +kernel
theorem dX4_copyFrom_6 : decode cX4_copyFrom 6 = .ok (.getfield 27, 3) := by decide +kernel
theorem dX4_copyFrom_9 : decode cX4_copyFrom 9 = .ok (.invokestatic 21, 3) := by decide +kernel
theorem dX4_copyFrom_12 : decode cX4_copyFrom 12 = .ok (.putfield 31, 3) := by decide +kernel
theorem dX4_copyFrom_15 : decode cX4_copyFrom 15 = .ok (.iconst 0, 1) := by decide +kernel
theorem dX4_copyFrom_16 : decode cX4_copyFrom 16 = .ok (.istore_n 2, 1) := by decide +kernel
theorem dX4_copyFrom_17 : decode cX4_copyFrom 17 = .ok (.iload_n 2, 1) := by decide +kernel
theorem dX4_copyFrom_18 : decode cX4_copyFrom 18 = .ok (.aload_n 0, 1) := by decide +kernel
theorem dX4_copyFrom_19 : decode cX4_copyFrom 19 = .ok (.getfield 31, 3) := by decide +kernel
theorem dX4_copyFrom_22 : decode cX4_copyFrom 22 = .ok (.if_icmp .ge 29, 3) := by decide +kernel
theorem dX4_copyFrom_25 : decode cX4_copyFrom 25 = .ok (.aload_n 0, 1) := by decide +kernel
theorem dX4_copyFrom_26 : decode cX4_copyFrom 26 = .ok (.iload_n 2, 1) := by decide +kernel
theorem dX4_copyFrom_27 : decode cX4_copyFrom 27 = .ok (.aload_n 1, 1) := by decide +kernel
theorem dX4_copyFrom_28 : decode cX4_copyFrom 28 = .ok (.iload_n 2, 1) := by decide +kernel
theorem dX4_copyFrom_29 : decode cX4_copyFrom 29 = .ok (.invokevirtual 51, 3) := by decide +kernel
theorem dX4_copyFrom_32 : decode cX4_copyFrom 32 = .ok (.aload_n 1, 1) := by decide +kernel
theorem dX4_copyFrom_33 : decode cX4_copyFrom 33 = .ok (.iload_n 2, 1) := by decide +kernel
theorem dX4_copyFrom_34 : decode cX4_copyFrom 34 = .ok (.invokevirtual 55, 3) := by decide +kernel
theorem dX4_copyFrom_37 : decode cX4_copyFrom 37 = .ok (.aload_n 1, 1) := by decide +kernel
theorem dX4_copyFrom_38 : decode cX4_copyFrom 38 = .ok (.iload_n 2, 1) := by decide +kernel
theorem dX4_copyFrom_39 : decode cX4_copyFrom 39 = .ok (.invokevirtual 58, 3) := by decide +kernel
theorem dX4_copyFrom_42 : decode cX4_copyFrom 42 = .ok (.invokevirtual 65, 3) := by decide +kernel
theorem dX4_copyFrom_45 : decode cX4_copyFrom 45 = .ok (.iinc 2 1, 3) := by decide +kernel
theorem dX4_copyFrom_48 : decode cX4_copyFrom 48 = .ok (.goto (-31), 3) := by decide +kernel
theorem dX4_copyFrom_51 : decode cX4_copyFrom 51 = .ok (.return_, 1) := by decide +kernel
theorem q2_231 : Cond.instanceMethod yX4_size ∈ TT := tq2 231 rfl rfl
theorem q2_232 : Cond.selects RX4 yX4_size yX4_size ∈ TT := tq2 232 rfl rfl
theorem q2_233 : Cond.code yX4_size cX4_size 1 (some .int) ∈ TT := tq2 233 rfl rfl
theorem q4_110 : Cond.methodLink RX4 69 yX4_size ∈ TT := tq4 110 rfl rfl
theorem lk_RX4_69 : vlk RX4 69 yX4_size cX4_size 1 (some .int) 0 := ⟨List.forall_mem_cons.mpr ⟨q4_110, List.forall_mem_cons.mpr ⟨q2_231, List.forall_mem_cons.mpr ⟨q2_232, List.forall_mem_cons.mpr ⟨q1_4, fun _ h => absurd h List.not_mem_nil⟩⟩⟩⟩, q2_233, by decide, by decide, by decide +kernel⟩
def F_X4_copyFrom_b17 (s_a1 : S4) : Nat → Int32 → S4 → Option (S4)
  | 0, _, _ => none
  | n + 1, v2, zs_o => (if (s4_size zs_o) ≤ v2 then some (zs_o) else (F_X4_wordAt s_a1 v2).bind fun q_1 => (F_X4_thingAt s_a1 v2).bind fun q_2 => (F_X4_beforeAt s_a1 v2).bind fun q_3 => (F_X4_lay zs_o v2 q_1 q_2 q_3).bind fun q_4 => nm (v2 + 1) fun v2_5 => (F_X4_copyFrom_b17 s_a1 n) v2_5 q_4)
def F_X4_copyFrom (s_a1 : S4) (s_o : S4) : Option (S4) := (F_X4_size s_a1).bind fun q_6 => nm (u4_size s_o (if (s4_most s_o) < q_6 then (s4_most s_o) else q_6)) fun s_o_7 => nm 0 fun v2_8 => F_X4_copyFrom_b17 s_a1 fu v2_8 s_o_7
def w_X4_copyFrom (a1 o : Nat → Nat) (cB cI cJ cZ : ClassId) (s_a1 : S4) (s_o : S4) : va_W := List.flatten [(gX4 a1 cB cI cJ cZ s_a1), (gX4 o cB cI cJ cZ s_o)]
abbrev rm_X4_copyFrom : Room := { frames := 2, cells := 0, slots := 0, locals := 46 }
set_option maxHeartbeats 4000000 in
set_option maxRecDepth 100000 in
theorem c_X4_copyFrom (l : Launch) (D : gG) (cB cI cJ cZ : ClassId) (a1 o : Nat → Nat) (s_a1 : S4) (s_o : S4) (r : S4) (hf : F_X4_copyFrom s_a1 s_o = some r) : gM l D (tyL cB cI cJ cZ) yX4_copyFrom cX4_copyFrom 3 none rm_X4_copyFrom [.ref (o 0), .ref (a1 0)] (w_X4_copyFrom a1 o cB cI cJ cZ s_a1 s_o) none (w_X4_copyFrom a1 o cB cI cJ cZ s_a1 r) := by
  refine met_of (by decide) (Nat.le_of_ble_eq_true rfl) ?_
  intro p e s m args below meth c A cx hr hA
  show gW p l e rm_X4_copyFrom s m args below meth c D A 3 _ 0 0 _ [(0, .ref (o 0)), (1, .ref (a1 0))] 0 []
  have h17 : ∀ (n : Nat) (v2 : Int32) (zs_o : S4), F_X4_copyFrom_b17 s_a1 n v2 zs_o = some r → gW p l e rm_X4_copyFrom s m args below meth c D A 3 (MQ below (QM D (tyL cB cI cJ cZ) none (w_X4_copyFrom a1 o cB cI cJ cZ s_a1 s_o) (w_X4_copyFrom a1 o cB cI cJ cZ s_a1 r) s.heap.size) args s 0 0 A) 0 0 (w_X4_copyFrom a1 o cB cI cJ cZ s_a1 zs_o) [(0, .ref (o 0)), (1, .ref (a1 0)), (2, .int v2)] 17 [] := by
    intro n
    induction n with
    | zero => intro v2 zs_o hf; rw [F_X4_copyFrom_b17] at hf; cases hf
    | succ n ih =>
      intro v2 zs_o hf
      rw [F_X4_copyFrom_b17] at hf
      refine g_iln cx 2 dX4_copyFrom_17 rfl ?_
      refine g_aln cx 0 dX4_copyFrom_18 rfl ?_
      refine fg_RX4_31 cx 4 rfl rfl dX4_copyFrom_19 ?_
      refine g_ic_ge (tgt := 51) cx hf dX4_copyFrom_22 rfl (fun hf => ?_) (fun hf => ?_)
      · exact g_vret (ovf := fun (r : S4) => none) (wf := fun (r : S4) => (w_X4_copyFrom a1 o cB cI cJ cZ s_a1 r)) cx hA hr hf rfl rfl dX4_copyFrom_51
      · refine g_aln cx 0 dX4_copyFrom_25 rfl ?_
        refine g_iln cx 2 dX4_copyFrom_26 rfl ?_
        refine g_aln cx 1 dX4_copyFrom_27 rfl ?_
        refine g_iln cx 2 dX4_copyFrom_28 rfl ?_
        refine ob hf (fun q_1 hq_1 hf => ?_)
        refine g_callVGiR cx lk_RX4_51 (c_X4_wordAt l D cB cI cJ cZ a1 s_a1 v2 q_1 hq_1) rfl [0] rfl rfl (ci := 4) (q1 := 0) rfl rfl rfl (Nat.le_of_ble_eq_true rfl) ⟨rfl, rfl, Nat.le_of_ble_eq_true rfl, Nat.le_of_ble_eq_true rfl⟩ dX4_copyFrom_29 ?_
        refine g_aln cx 1 dX4_copyFrom_32 rfl ?_
        refine g_iln cx 2 dX4_copyFrom_33 rfl ?_
        refine ob hf (fun q_2 hq_2 hf => ?_)
        refine g_callVGiR cx lk_RX4_55 (c_X4_thingAt l D cB cI cJ cZ a1 s_a1 v2 q_2 hq_2) rfl [0] rfl rfl (ci := 4) (q1 := 0) rfl rfl rfl (Nat.le_of_ble_eq_true rfl) ⟨rfl, rfl, Nat.le_of_ble_eq_true rfl, Nat.le_of_ble_eq_true rfl⟩ dX4_copyFrom_34 ?_
        refine g_aln cx 1 dX4_copyFrom_37 rfl ?_
        refine g_iln cx 2 dX4_copyFrom_38 rfl ?_
        refine ob hf (fun q_3 hq_3 hf => ?_)
        refine g_callVGiR cx lk_RX4_58 (c_X4_beforeAt l D cB cI cJ cZ a1 s_a1 v2 q_3 hq_3) rfl [0] rfl rfl (ci := 4) (q1 := 0) rfl rfl rfl (Nat.le_of_ble_eq_true rfl) ⟨rfl, rfl, Nat.le_of_ble_eq_true rfl, Nat.le_of_ble_eq_true rfl⟩ dX4_copyFrom_39 ?_
        refine ob hf (fun q_4 hq_4 hf => ?_)
        refine g_callVGv (gs' := [(gX4 a1 cB cI cJ cZ s_a1), (gX4 o cB cI cJ cZ q_4)]) cx lk_RX4_65 (c_X4_lay l D cB cI cJ cZ o zs_o v2 q_1 q_2 q_3 q_4 hq_4) rfl [1] rfl rfl rfl rfl (ci := 4) (q1 := 0) rfl rfl rfl (Nat.le_of_ble_eq_true rfl) ⟨rfl, rfl, Nat.le_of_ble_eq_true rfl, Nat.le_of_ble_eq_true rfl⟩ dX4_copyFrom_42 ?_
        refine g_inc cx (L2 := fun v2_5 => [(2, .int v2_5), (0, .ref (o 0)), (1, .ref (a1 0))]) 2 hf dX4_copyFrom_45 rfl (k_inc1 _) (Nat.le_of_ble_eq_true rfl) (fun _ => rfl) (fun v2_5 hf => ?_)
        refine g_goto (tgt := 17) cx dX4_copyFrom_48 rfl ?_
        refine g_sub [1, 2, 0] rfl ?_
        exact ih _ _ hf
  rw [F_X4_copyFrom] at hf
  refine g_aln cx 0 dX4_copyFrom_0 rfl ?_
  refine g_aln cx 1 dX4_copyFrom_1 rfl ?_
  refine ob hf (fun q_6 hq_6 hf => ?_)
  refine g_callVGiR cx lk_RX4_69 (c_X4_size l D cB cI cJ cZ a1 s_a1 q_6 hq_6) rfl [0] rfl rfl (ci := 4) (q1 := 0) rfl rfl rfl (Nat.le_of_ble_eq_true rfl) ⟨rfl, rfl, Nat.le_of_ble_eq_true rfl, Nat.le_of_ble_eq_true rfl⟩ dX4_copyFrom_2 ?_
  refine g_aln cx 0 dX4_copyFrom_5 rfl ?_
  refine fg_RX4_27 cx 4 rfl rfl dX4_copyFrom_6 ?_
  refine g_min cx mr_RX4_21 (Nat.le_of_ble_eq_true rfl) ⟨Nat.le_of_ble_eq_true rfl, Nat.le_of_ble_eq_true rfl⟩ dX4_copyFrom_9 ?_
  refine fp_RX4_31 cx 4 rfl (Nat.le_of_ble_eq_true rfl) (ws' := (w_X4_copyFrom a1 o cB cI cJ cZ s_a1 (u4_size s_o (if (s4_most s_o) < q_6 then (s4_most s_o) else q_6)))) rfl dX4_copyFrom_12 ?_
  refine g_nm (w := fun s_o_7 => (w_X4_copyFrom a1 o cB cI cJ cZ s_a1 s_o_7)) hf (fun s_o_7 hf => ?_)
  refine g_ic cx dX4_copyFrom_15 k_ic0 ?_
  refine g_isn cx (L2 := fun v2_8 => [(2, .int v2_8), (0, .ref (o 0)), (1, .ref (a1 0))]) hf dX4_copyFrom_16 (Nat.le_of_ble_eq_true rfl) (fun _ => rfl) (fun v2_8 hf => ?_)
  refine g_sub [1, 2, 0] rfl ?_
  exact h17 fu _ _ hf
