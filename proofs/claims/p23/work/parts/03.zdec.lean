/-! ===== decoding by the bytes' list ===== -/
def fdn : List Nat → Nat → Nat
  | [], _ => 0
  | a :: _, 0 => a + 1
  | _ :: l, n + 1 => fdn l n
def fdB (c : ByteArray) (p b : Nat) : Prop := ∃ h : p < c.size, (c[p]'h).toNat = b
theorem fdn_map : ∀ (l : List UInt8) (p b : Nat), fdn (l.map UInt8.toNat) p = b + 1 → ∃ h : p < l.length, (l[p]'h).toNat = b := by
  intro l
  induction l with
  | nil => intro p b h; cases h
  | cons a l ih =>
    intro p b h
    cases p with
    | zero => exact ⟨Nat.succ_pos _, Nat.succ.inj h⟩
    | succ p =>
      obtain ⟨h1, h2⟩ := ih p b h
      exact ⟨Nat.succ_lt_succ h1, h2⟩
theorem fdn_drop : ∀ (k : Nat) (l : List Nat) (r : Nat), fdn (l.drop k) r = fdn l (k + r) := by
  intro k
  induction k with
  | zero => intro l r; rw [Nat.zero_add]; rfl
  | succ k ih =>
    intro l r
    cases l with
    | nil => rfl
    | cons a l =>
      rw [show k + 1 + r = (k + r) + 1 from by omega]
      exact ih l r
theorem fdB_of {c : ByteArray} {S : List Nat} {k : Nat} (hS : (c.data.toList.map UInt8.toNat).drop k = S) (r b : Nat) (hb : fdn S r = b + 1) : fdB c (k + r) b := by
  rw [← hS, fdn_drop] at hb
  obtain ⟨⟨l⟩⟩ := c
  exact fdn_map l (k + r) b hb
theorem fd_next {L S S2 : List Nat} {k : Nat} (h : L.drop k = S) (e : S.drop 16 = S2) : L.drop (k + 16) = S2 := by
  rw [← e, ← h, List.drop_drop]
theorem fd_u1 {c : ByteArray} {p b : Nat} (h : fdB c p b) : (ClassFile.Reader.u1 : ClassFile.Decoder Nat) c p = .ok (b, p + 1) := by
  obtain ⟨h1, h2⟩ := h
  unfold ClassFile.Reader.u1
  show (dite (p < c.size) _ _ : ClassFile.Decoder Nat) c p = _
  rw [dif_pos h1]
  show Except.ok ((c[p]'h1).toNat, p + 1) = _
  rw [h2]
theorem fd_u1b {A : Type} {c : ByteArray} {p b : Nat} (h : fdB c p b) (K : Nat → ClassFile.Decoder A) : (bind (ClassFile.Reader.u1 : ClassFile.Decoder Nat) K).runAt c p = (K b).runAt c (p + 1) := by
  show (bind ((ClassFile.Reader.u1 : ClassFile.Decoder Nat) c p) fun x => K x.1 c x.2) = K b c (p + 1)
  rw [fd_u1 h]
  rfl
theorem fd_s1 {c : ByteArray} {p b : Nat} {v : Int} (h : fdB c p b) (e : ClassFile.Reader.signed 8 b = v) : (ClassFile.Reader.s1 : ClassFile.Decoder Int) c p = .ok (v, p + 1) := by
  show (bind ((ClassFile.Reader.u1 : ClassFile.Decoder Nat) c p) fun x => Except.ok (ClassFile.Reader.signed 8 x.1, x.2)) = _
  rw [fd_u1 h, ← e]
  rfl
theorem fd_u2 {c : ByteArray} {p hi lo : Nat} (h1 : fdB c p hi) (h2 : fdB c (p + 1) lo) : (ClassFile.Reader.u2 : ClassFile.Decoder Nat) c p = .ok (hi * 256 + lo, p + 2) := by
  show (bind ((ClassFile.Reader.u1 : ClassFile.Decoder Nat) c p) fun x => bind ((ClassFile.Reader.u1 : ClassFile.Decoder Nat) c x.2) fun y => Except.ok (x.1 * 256 + y.1, y.2)) = _
  rw [fd_u1 h1]
  show (bind ((ClassFile.Reader.u1 : ClassFile.Decoder Nat) c (p + 1)) fun y => Except.ok (hi * 256 + y.1, y.2)) = _
  rw [fd_u1 h2]
  rfl
theorem fd_s2 {c : ByteArray} {p hi lo : Nat} {v : Int} (h1 : fdB c p hi) (h2 : fdB c (p + 1) lo) (e : ClassFile.Reader.signed 16 (hi * 256 + lo) = v) : (ClassFile.Reader.s2 : ClassFile.Decoder Int) c p = .ok (v, p + 2) := by
  show (bind ((ClassFile.Reader.u2 : ClassFile.Decoder Nat) c p) fun x => Except.ok (ClassFile.Reader.signed 16 x.1, x.2)) = _
  rw [fd_u2 h1 h2, ← e]
  rfl
theorem dk_2 {c : ByteArray} {p : Nat} (h : fdB c p 2) : decode c p = .ok (.iconst (-1), 1) := by
  unfold decode ClassFile.Decoder.instr
  rw [fd_u1b h]
  show Except.ok (ClassFile.Instr.iconst (-1), p + 1 - p) = _
  rw [Nat.add_sub_cancel_left]
theorem dk_3 {c : ByteArray} {p : Nat} (h : fdB c p 3) : decode c p = .ok (.iconst 0, 1) := by
  unfold decode ClassFile.Decoder.instr
  rw [fd_u1b h]
  show Except.ok (ClassFile.Instr.iconst 0, p + 1 - p) = _
  rw [Nat.add_sub_cancel_left]
theorem dk_4 {c : ByteArray} {p : Nat} (h : fdB c p 4) : decode c p = .ok (.iconst 1, 1) := by
  unfold decode ClassFile.Decoder.instr
  rw [fd_u1b h]
  show Except.ok (ClassFile.Instr.iconst 1, p + 1 - p) = _
  rw [Nat.add_sub_cancel_left]
theorem dk_5 {c : ByteArray} {p : Nat} (h : fdB c p 5) : decode c p = .ok (.iconst 2, 1) := by
  unfold decode ClassFile.Decoder.instr
  rw [fd_u1b h]
  show Except.ok (ClassFile.Instr.iconst 2, p + 1 - p) = _
  rw [Nat.add_sub_cancel_left]
theorem dk_6 {c : ByteArray} {p : Nat} (h : fdB c p 6) : decode c p = .ok (.iconst 3, 1) := by
  unfold decode ClassFile.Decoder.instr
  rw [fd_u1b h]
  show Except.ok (ClassFile.Instr.iconst 3, p + 1 - p) = _
  rw [Nat.add_sub_cancel_left]
theorem dk_7 {c : ByteArray} {p : Nat} (h : fdB c p 7) : decode c p = .ok (.iconst 4, 1) := by
  unfold decode ClassFile.Decoder.instr
  rw [fd_u1b h]
  show Except.ok (ClassFile.Instr.iconst 4, p + 1 - p) = _
  rw [Nat.add_sub_cancel_left]
theorem dk_8 {c : ByteArray} {p : Nat} (h : fdB c p 8) : decode c p = .ok (.iconst 5, 1) := by
  unfold decode ClassFile.Decoder.instr
  rw [fd_u1b h]
  show Except.ok (ClassFile.Instr.iconst 5, p + 1 - p) = _
  rw [Nat.add_sub_cancel_left]
theorem dk_9 {c : ByteArray} {p : Nat} (h : fdB c p 9) : decode c p = .ok (.lconst 0, 1) := by
  unfold decode ClassFile.Decoder.instr
  rw [fd_u1b h]
  show Except.ok (ClassFile.Instr.lconst 0, p + 1 - p) = _
  rw [Nat.add_sub_cancel_left]
theorem dk_10 {c : ByteArray} {p : Nat} (h : fdB c p 10) : decode c p = .ok (.lconst 1, 1) := by
  unfold decode ClassFile.Decoder.instr
  rw [fd_u1b h]
  show Except.ok (ClassFile.Instr.lconst 1, p + 1 - p) = _
  rw [Nat.add_sub_cancel_left]
theorem dk_16 {c : ByteArray} {p x1 : Nat} {v : Int} (h : fdB c p 16) (h1 : fdB c (p + 1) x1) (e : ClassFile.Reader.signed 8 x1 = v) : decode c p = .ok (.bipush v, 2) := by
  unfold decode ClassFile.Decoder.instr
  rw [fd_u1b h]
  show (bind (bind ((ClassFile.Reader.s1 : ClassFile.Decoder Int) c (p + 1)) fun x => Except.ok (ClassFile.Instr.bipush x.1, x.2)) fun (x : ClassFile.Instr × Nat) => Except.ok (x.1, x.2 - p)) = _
  rw [fd_s1 h1 e]
  show Except.ok (ClassFile.Instr.bipush v, p + 1 + 1 - p) = _
  rw [show p + 1 + 1 - p = 2 from by omega]
theorem dk_17 {c : ByteArray} {p hi lo : Nat} {v : Int} (h : fdB c p 17) (h1 : fdB c (p + 1) hi) (h2 : fdB c (p + 1 + 1) lo) (e : ClassFile.Reader.signed 16 (hi * 256 + lo) = v) : decode c p = .ok (.sipush v, 3) := by
  unfold decode ClassFile.Decoder.instr
  rw [fd_u1b h]
  show (bind (bind ((ClassFile.Reader.s2 : ClassFile.Decoder Int) c (p + 1)) fun x => Except.ok (ClassFile.Instr.sipush x.1, x.2)) fun (x : ClassFile.Instr × Nat) => Except.ok (x.1, x.2 - p)) = _
  rw [fd_s2 h1 h2 e]
  show Except.ok (ClassFile.Instr.sipush v, p + 1 + 2 - p) = _
  rw [show p + 1 + 2 - p = 3 from by omega]
theorem dk_18 {c : ByteArray} {p x1 : Nat} (h : fdB c p 18) (h1 : fdB c (p + 1) x1) : decode c p = .ok (.ldc x1, 2) := by
  unfold decode ClassFile.Decoder.instr
  rw [fd_u1b h]
  show (bind (bind ((ClassFile.Reader.u1 : ClassFile.Decoder Nat) c (p + 1)) fun x => Except.ok (ClassFile.Instr.ldc x.1, x.2)) fun (x : ClassFile.Instr × Nat) => Except.ok (x.1, x.2 - p)) = _
  rw [fd_u1 h1]
  show Except.ok (ClassFile.Instr.ldc x1, p + 1 + 1 - p) = _
  rw [show p + 1 + 1 - p = 2 from by omega]
theorem dk_20 {c : ByteArray} {p hi lo : Nat} (h : fdB c p 20) (h1 : fdB c (p + 1) hi) (h2 : fdB c (p + 1 + 1) lo) : decode c p = .ok (.ldc2_w (hi * 256 + lo), 3) := by
  unfold decode ClassFile.Decoder.instr
  rw [fd_u1b h]
  show (bind (bind ((ClassFile.Reader.u2 : ClassFile.Decoder Nat) c (p + 1)) fun x => Except.ok (ClassFile.Instr.ldc2_w x.1, x.2)) fun (x : ClassFile.Instr × Nat) => Except.ok (x.1, x.2 - p)) = _
  rw [fd_u2 h1 h2]
  show Except.ok (ClassFile.Instr.ldc2_w (hi * 256 + lo), p + 1 + 2 - p) = _
  rw [show p + 1 + 2 - p = 3 from by omega]
theorem dk_21 {c : ByteArray} {p x1 : Nat} (h : fdB c p 21) (h1 : fdB c (p + 1) x1) : decode c p = .ok (.iload x1, 2) := by
  unfold decode ClassFile.Decoder.instr
  rw [fd_u1b h]
  show (bind (bind ((ClassFile.Reader.u1 : ClassFile.Decoder Nat) c (p + 1)) fun x => Except.ok (ClassFile.Instr.iload x.1, x.2)) fun (x : ClassFile.Instr × Nat) => Except.ok (x.1, x.2 - p)) = _
  rw [fd_u1 h1]
  show Except.ok (ClassFile.Instr.iload x1, p + 1 + 1 - p) = _
  rw [show p + 1 + 1 - p = 2 from by omega]
theorem dk_22 {c : ByteArray} {p x1 : Nat} (h : fdB c p 22) (h1 : fdB c (p + 1) x1) : decode c p = .ok (.lload x1, 2) := by
  unfold decode ClassFile.Decoder.instr
  rw [fd_u1b h]
  show (bind (bind ((ClassFile.Reader.u1 : ClassFile.Decoder Nat) c (p + 1)) fun x => Except.ok (ClassFile.Instr.lload x.1, x.2)) fun (x : ClassFile.Instr × Nat) => Except.ok (x.1, x.2 - p)) = _
  rw [fd_u1 h1]
  show Except.ok (ClassFile.Instr.lload x1, p + 1 + 1 - p) = _
  rw [show p + 1 + 1 - p = 2 from by omega]
theorem dk_25 {c : ByteArray} {p x1 : Nat} (h : fdB c p 25) (h1 : fdB c (p + 1) x1) : decode c p = .ok (.aload x1, 2) := by
  unfold decode ClassFile.Decoder.instr
  rw [fd_u1b h]
  show (bind (bind ((ClassFile.Reader.u1 : ClassFile.Decoder Nat) c (p + 1)) fun x => Except.ok (ClassFile.Instr.aload x.1, x.2)) fun (x : ClassFile.Instr × Nat) => Except.ok (x.1, x.2 - p)) = _
  rw [fd_u1 h1]
  show Except.ok (ClassFile.Instr.aload x1, p + 1 + 1 - p) = _
  rw [show p + 1 + 1 - p = 2 from by omega]
theorem dk_27 {c : ByteArray} {p : Nat} (h : fdB c p 27) : decode c p = .ok (.iload_n 1, 1) := by
  unfold decode ClassFile.Decoder.instr
  rw [fd_u1b h]
  show Except.ok (ClassFile.Instr.iload_n 1, p + 1 - p) = _
  rw [Nat.add_sub_cancel_left]
theorem dk_28 {c : ByteArray} {p : Nat} (h : fdB c p 28) : decode c p = .ok (.iload_n 2, 1) := by
  unfold decode ClassFile.Decoder.instr
  rw [fd_u1b h]
  show Except.ok (ClassFile.Instr.iload_n 2, p + 1 - p) = _
  rw [Nat.add_sub_cancel_left]
theorem dk_29 {c : ByteArray} {p : Nat} (h : fdB c p 29) : decode c p = .ok (.iload_n 3, 1) := by
  unfold decode ClassFile.Decoder.instr
  rw [fd_u1b h]
  show Except.ok (ClassFile.Instr.iload_n 3, p + 1 - p) = _
  rw [Nat.add_sub_cancel_left]
theorem dk_32 {c : ByteArray} {p : Nat} (h : fdB c p 32) : decode c p = .ok (.lload_n 2, 1) := by
  unfold decode ClassFile.Decoder.instr
  rw [fd_u1b h]
  show Except.ok (ClassFile.Instr.lload_n 2, p + 1 - p) = _
  rw [Nat.add_sub_cancel_left]
theorem dk_42 {c : ByteArray} {p : Nat} (h : fdB c p 42) : decode c p = .ok (.aload_n 0, 1) := by
  unfold decode ClassFile.Decoder.instr
  rw [fd_u1b h]
  show Except.ok (ClassFile.Instr.aload_n 0, p + 1 - p) = _
  rw [Nat.add_sub_cancel_left]
theorem dk_43 {c : ByteArray} {p : Nat} (h : fdB c p 43) : decode c p = .ok (.aload_n 1, 1) := by
  unfold decode ClassFile.Decoder.instr
  rw [fd_u1b h]
  show Except.ok (ClassFile.Instr.aload_n 1, p + 1 - p) = _
  rw [Nat.add_sub_cancel_left]
theorem dk_44 {c : ByteArray} {p : Nat} (h : fdB c p 44) : decode c p = .ok (.aload_n 2, 1) := by
  unfold decode ClassFile.Decoder.instr
  rw [fd_u1b h]
  show Except.ok (ClassFile.Instr.aload_n 2, p + 1 - p) = _
  rw [Nat.add_sub_cancel_left]
theorem dk_46 {c : ByteArray} {p : Nat} (h : fdB c p 46) : decode c p = .ok (.iaload, 1) := by
  unfold decode ClassFile.Decoder.instr
  rw [fd_u1b h]
  show Except.ok (ClassFile.Instr.iaload, p + 1 - p) = _
  rw [Nat.add_sub_cancel_left]
theorem dk_47 {c : ByteArray} {p : Nat} (h : fdB c p 47) : decode c p = .ok (.laload, 1) := by
  unfold decode ClassFile.Decoder.instr
  rw [fd_u1b h]
  show Except.ok (ClassFile.Instr.laload, p + 1 - p) = _
  rw [Nat.add_sub_cancel_left]
theorem dk_51 {c : ByteArray} {p : Nat} (h : fdB c p 51) : decode c p = .ok (.baload, 1) := by
  unfold decode ClassFile.Decoder.instr
  rw [fd_u1b h]
  show Except.ok (ClassFile.Instr.baload, p + 1 - p) = _
  rw [Nat.add_sub_cancel_left]
theorem dk_54 {c : ByteArray} {p x1 : Nat} (h : fdB c p 54) (h1 : fdB c (p + 1) x1) : decode c p = .ok (.istore x1, 2) := by
  unfold decode ClassFile.Decoder.instr
  rw [fd_u1b h]
  show (bind (bind ((ClassFile.Reader.u1 : ClassFile.Decoder Nat) c (p + 1)) fun x => Except.ok (ClassFile.Instr.istore x.1, x.2)) fun (x : ClassFile.Instr × Nat) => Except.ok (x.1, x.2 - p)) = _
  rw [fd_u1 h1]
  show Except.ok (ClassFile.Instr.istore x1, p + 1 + 1 - p) = _
  rw [show p + 1 + 1 - p = 2 from by omega]
theorem dk_55 {c : ByteArray} {p x1 : Nat} (h : fdB c p 55) (h1 : fdB c (p + 1) x1) : decode c p = .ok (.lstore x1, 2) := by
  unfold decode ClassFile.Decoder.instr
  rw [fd_u1b h]
  show (bind (bind ((ClassFile.Reader.u1 : ClassFile.Decoder Nat) c (p + 1)) fun x => Except.ok (ClassFile.Instr.lstore x.1, x.2)) fun (x : ClassFile.Instr × Nat) => Except.ok (x.1, x.2 - p)) = _
  rw [fd_u1 h1]
  show Except.ok (ClassFile.Instr.lstore x1, p + 1 + 1 - p) = _
  rw [show p + 1 + 1 - p = 2 from by omega]
theorem dk_58 {c : ByteArray} {p x1 : Nat} (h : fdB c p 58) (h1 : fdB c (p + 1) x1) : decode c p = .ok (.astore x1, 2) := by
  unfold decode ClassFile.Decoder.instr
  rw [fd_u1b h]
  show (bind (bind ((ClassFile.Reader.u1 : ClassFile.Decoder Nat) c (p + 1)) fun x => Except.ok (ClassFile.Instr.astore x.1, x.2)) fun (x : ClassFile.Instr × Nat) => Except.ok (x.1, x.2 - p)) = _
  rw [fd_u1 h1]
  show Except.ok (ClassFile.Instr.astore x1, p + 1 + 1 - p) = _
  rw [show p + 1 + 1 - p = 2 from by omega]
theorem dk_60 {c : ByteArray} {p : Nat} (h : fdB c p 60) : decode c p = .ok (.istore_n 1, 1) := by
  unfold decode ClassFile.Decoder.instr
  rw [fd_u1b h]
  show Except.ok (ClassFile.Instr.istore_n 1, p + 1 - p) = _
  rw [Nat.add_sub_cancel_left]
theorem dk_61 {c : ByteArray} {p : Nat} (h : fdB c p 61) : decode c p = .ok (.istore_n 2, 1) := by
  unfold decode ClassFile.Decoder.instr
  rw [fd_u1b h]
  show Except.ok (ClassFile.Instr.istore_n 2, p + 1 - p) = _
  rw [Nat.add_sub_cancel_left]
theorem dk_62 {c : ByteArray} {p : Nat} (h : fdB c p 62) : decode c p = .ok (.istore_n 3, 1) := by
  unfold decode ClassFile.Decoder.instr
  rw [fd_u1b h]
  show Except.ok (ClassFile.Instr.istore_n 3, p + 1 - p) = _
  rw [Nat.add_sub_cancel_left]
theorem dk_65 {c : ByteArray} {p : Nat} (h : fdB c p 65) : decode c p = .ok (.lstore_n 2, 1) := by
  unfold decode ClassFile.Decoder.instr
  rw [fd_u1b h]
  show Except.ok (ClassFile.Instr.lstore_n 2, p + 1 - p) = _
  rw [Nat.add_sub_cancel_left]
theorem dk_76 {c : ByteArray} {p : Nat} (h : fdB c p 76) : decode c p = .ok (.astore_n 1, 1) := by
  unfold decode ClassFile.Decoder.instr
  rw [fd_u1b h]
  show Except.ok (ClassFile.Instr.astore_n 1, p + 1 - p) = _
  rw [Nat.add_sub_cancel_left]
theorem dk_77 {c : ByteArray} {p : Nat} (h : fdB c p 77) : decode c p = .ok (.astore_n 2, 1) := by
  unfold decode ClassFile.Decoder.instr
  rw [fd_u1b h]
  show Except.ok (ClassFile.Instr.astore_n 2, p + 1 - p) = _
  rw [Nat.add_sub_cancel_left]
theorem dk_79 {c : ByteArray} {p : Nat} (h : fdB c p 79) : decode c p = .ok (.iastore, 1) := by
  unfold decode ClassFile.Decoder.instr
  rw [fd_u1b h]
  show Except.ok (ClassFile.Instr.iastore, p + 1 - p) = _
  rw [Nat.add_sub_cancel_left]
theorem dk_80 {c : ByteArray} {p : Nat} (h : fdB c p 80) : decode c p = .ok (.lastore, 1) := by
  unfold decode ClassFile.Decoder.instr
  rw [fd_u1b h]
  show Except.ok (ClassFile.Instr.lastore, p + 1 - p) = _
  rw [Nat.add_sub_cancel_left]
theorem dk_84 {c : ByteArray} {p : Nat} (h : fdB c p 84) : decode c p = .ok (.bastore, 1) := by
  unfold decode ClassFile.Decoder.instr
  rw [fd_u1b h]
  show Except.ok (ClassFile.Instr.bastore, p + 1 - p) = _
  rw [Nat.add_sub_cancel_left]
theorem dk_87 {c : ByteArray} {p : Nat} (h : fdB c p 87) : decode c p = .ok (.pop, 1) := by
  unfold decode ClassFile.Decoder.instr
  rw [fd_u1b h]
  show Except.ok (ClassFile.Instr.pop, p + 1 - p) = _
  rw [Nat.add_sub_cancel_left]
theorem dk_88 {c : ByteArray} {p : Nat} (h : fdB c p 88) : decode c p = .ok (.pop2, 1) := by
  unfold decode ClassFile.Decoder.instr
  rw [fd_u1b h]
  show Except.ok (ClassFile.Instr.pop2, p + 1 - p) = _
  rw [Nat.add_sub_cancel_left]
theorem dk_89 {c : ByteArray} {p : Nat} (h : fdB c p 89) : decode c p = .ok (.dup, 1) := by
  unfold decode ClassFile.Decoder.instr
  rw [fd_u1b h]
  show Except.ok (ClassFile.Instr.dup, p + 1 - p) = _
  rw [Nat.add_sub_cancel_left]
theorem dk_92 {c : ByteArray} {p : Nat} (h : fdB c p 92) : decode c p = .ok (.dup2, 1) := by
  unfold decode ClassFile.Decoder.instr
  rw [fd_u1b h]
  show Except.ok (ClassFile.Instr.dup2, p + 1 - p) = _
  rw [Nat.add_sub_cancel_left]
theorem dk_96 {c : ByteArray} {p : Nat} (h : fdB c p 96) : decode c p = .ok (.iadd, 1) := by
  unfold decode ClassFile.Decoder.instr
  rw [fd_u1b h]
  show Except.ok (ClassFile.Instr.iadd, p + 1 - p) = _
  rw [Nat.add_sub_cancel_left]
theorem dk_97 {c : ByteArray} {p : Nat} (h : fdB c p 97) : decode c p = .ok (.ladd, 1) := by
  unfold decode ClassFile.Decoder.instr
  rw [fd_u1b h]
  show Except.ok (ClassFile.Instr.ladd, p + 1 - p) = _
  rw [Nat.add_sub_cancel_left]
theorem dk_100 {c : ByteArray} {p : Nat} (h : fdB c p 100) : decode c p = .ok (.isub, 1) := by
  unfold decode ClassFile.Decoder.instr
  rw [fd_u1b h]
  show Except.ok (ClassFile.Instr.isub, p + 1 - p) = _
  rw [Nat.add_sub_cancel_left]
theorem dk_101 {c : ByteArray} {p : Nat} (h : fdB c p 101) : decode c p = .ok (.lsub, 1) := by
  unfold decode ClassFile.Decoder.instr
  rw [fd_u1b h]
  show Except.ok (ClassFile.Instr.lsub, p + 1 - p) = _
  rw [Nat.add_sub_cancel_left]
theorem dk_104 {c : ByteArray} {p : Nat} (h : fdB c p 104) : decode c p = .ok (.imul, 1) := by
  unfold decode ClassFile.Decoder.instr
  rw [fd_u1b h]
  show Except.ok (ClassFile.Instr.imul, p + 1 - p) = _
  rw [Nat.add_sub_cancel_left]
theorem dk_105 {c : ByteArray} {p : Nat} (h : fdB c p 105) : decode c p = .ok (.lmul, 1) := by
  unfold decode ClassFile.Decoder.instr
  rw [fd_u1b h]
  show Except.ok (ClassFile.Instr.lmul, p + 1 - p) = _
  rw [Nat.add_sub_cancel_left]
theorem dk_120 {c : ByteArray} {p : Nat} (h : fdB c p 120) : decode c p = .ok (.ishl, 1) := by
  unfold decode ClassFile.Decoder.instr
  rw [fd_u1b h]
  show Except.ok (ClassFile.Instr.ishl, p + 1 - p) = _
  rw [Nat.add_sub_cancel_left]
theorem dk_121 {c : ByteArray} {p : Nat} (h : fdB c p 121) : decode c p = .ok (.lshl, 1) := by
  unfold decode ClassFile.Decoder.instr
  rw [fd_u1b h]
  show Except.ok (ClassFile.Instr.lshl, p + 1 - p) = _
  rw [Nat.add_sub_cancel_left]
theorem dk_122 {c : ByteArray} {p : Nat} (h : fdB c p 122) : decode c p = .ok (.ishr, 1) := by
  unfold decode ClassFile.Decoder.instr
  rw [fd_u1b h]
  show Except.ok (ClassFile.Instr.ishr, p + 1 - p) = _
  rw [Nat.add_sub_cancel_left]
theorem dk_126 {c : ByteArray} {p : Nat} (h : fdB c p 126) : decode c p = .ok (.iand, 1) := by
  unfold decode ClassFile.Decoder.instr
  rw [fd_u1b h]
  show Except.ok (ClassFile.Instr.iand, p + 1 - p) = _
  rw [Nat.add_sub_cancel_left]
theorem dk_127 {c : ByteArray} {p : Nat} (h : fdB c p 127) : decode c p = .ok (.land, 1) := by
  unfold decode ClassFile.Decoder.instr
  rw [fd_u1b h]
  show Except.ok (ClassFile.Instr.land, p + 1 - p) = _
  rw [Nat.add_sub_cancel_left]
theorem dk_128 {c : ByteArray} {p : Nat} (h : fdB c p 128) : decode c p = .ok (.ior, 1) := by
  unfold decode ClassFile.Decoder.instr
  rw [fd_u1b h]
  show Except.ok (ClassFile.Instr.ior, p + 1 - p) = _
  rw [Nat.add_sub_cancel_left]
theorem dk_129 {c : ByteArray} {p : Nat} (h : fdB c p 129) : decode c p = .ok (.lor, 1) := by
  unfold decode ClassFile.Decoder.instr
  rw [fd_u1b h]
  show Except.ok (ClassFile.Instr.lor, p + 1 - p) = _
  rw [Nat.add_sub_cancel_left]
theorem dk_130 {c : ByteArray} {p : Nat} (h : fdB c p 130) : decode c p = .ok (.ixor, 1) := by
  unfold decode ClassFile.Decoder.instr
  rw [fd_u1b h]
  show Except.ok (ClassFile.Instr.ixor, p + 1 - p) = _
  rw [Nat.add_sub_cancel_left]
theorem dk_132 {c : ByteArray} {p x1 x2 : Nat} {v : Int} (h : fdB c p 132) (h1 : fdB c (p + 1) x1) (h2 : fdB c (p + 1 + 1) x2) (e : ClassFile.Reader.signed 8 x2 = v) : decode c p = .ok (.iinc x1 v, 3) := by
  unfold decode ClassFile.Decoder.instr
  rw [fd_u1b h]
  show (bind (bind ((ClassFile.Reader.u1 : ClassFile.Decoder Nat) c (p + 1)) fun x => bind ((ClassFile.Reader.s1 : ClassFile.Decoder Int) c x.2) fun y => Except.ok (ClassFile.Instr.iinc x.1 y.1, y.2)) fun (x : ClassFile.Instr × Nat) => Except.ok (x.1, x.2 - p)) = _
  rw [fd_u1 h1]
  show (bind (bind ((ClassFile.Reader.s1 : ClassFile.Decoder Int) c (p + 1 + 1)) fun y => Except.ok (ClassFile.Instr.iinc x1 y.1, y.2)) fun (x : ClassFile.Instr × Nat) => Except.ok (x.1, x.2 - p)) = _
  rw [fd_s1 h2 e]
  show Except.ok (ClassFile.Instr.iinc x1 v, p + 1 + 1 + 1 - p) = _
  rw [show p + 1 + 1 + 1 - p = 3 from by omega]
theorem dk_133 {c : ByteArray} {p : Nat} (h : fdB c p 133) : decode c p = .ok (.i2l, 1) := by
  unfold decode ClassFile.Decoder.instr
  rw [fd_u1b h]
  show Except.ok (ClassFile.Instr.i2l, p + 1 - p) = _
  rw [Nat.add_sub_cancel_left]
theorem dk_148 {c : ByteArray} {p : Nat} (h : fdB c p 148) : decode c p = .ok (.lcmp, 1) := by
  unfold decode ClassFile.Decoder.instr
  rw [fd_u1b h]
  show Except.ok (ClassFile.Instr.lcmp, p + 1 - p) = _
  rw [Nat.add_sub_cancel_left]
theorem dk_153 {c : ByteArray} {p hi lo : Nat} {v : Int} (h : fdB c p 153) (h1 : fdB c (p + 1) hi) (h2 : fdB c (p + 1 + 1) lo) (e : ClassFile.Reader.signed 16 (hi * 256 + lo) = v) : decode c p = .ok (.ifCond .eq v, 3) := by
  unfold decode ClassFile.Decoder.instr
  rw [fd_u1b h]
  show (bind (bind ((ClassFile.Reader.s2 : ClassFile.Decoder Int) c (p + 1)) fun x => Except.ok (ClassFile.Instr.ifCond .eq x.1, x.2)) fun (x : ClassFile.Instr × Nat) => Except.ok (x.1, x.2 - p)) = _
  rw [fd_s2 h1 h2 e]
  show Except.ok (ClassFile.Instr.ifCond .eq v, p + 1 + 2 - p) = _
  rw [show p + 1 + 2 - p = 3 from by omega]
theorem dk_154 {c : ByteArray} {p hi lo : Nat} {v : Int} (h : fdB c p 154) (h1 : fdB c (p + 1) hi) (h2 : fdB c (p + 1 + 1) lo) (e : ClassFile.Reader.signed 16 (hi * 256 + lo) = v) : decode c p = .ok (.ifCond .ne v, 3) := by
  unfold decode ClassFile.Decoder.instr
  rw [fd_u1b h]
  show (bind (bind ((ClassFile.Reader.s2 : ClassFile.Decoder Int) c (p + 1)) fun x => Except.ok (ClassFile.Instr.ifCond .ne x.1, x.2)) fun (x : ClassFile.Instr × Nat) => Except.ok (x.1, x.2 - p)) = _
  rw [fd_s2 h1 h2 e]
  show Except.ok (ClassFile.Instr.ifCond .ne v, p + 1 + 2 - p) = _
  rw [show p + 1 + 2 - p = 3 from by omega]
theorem dk_155 {c : ByteArray} {p hi lo : Nat} {v : Int} (h : fdB c p 155) (h1 : fdB c (p + 1) hi) (h2 : fdB c (p + 1 + 1) lo) (e : ClassFile.Reader.signed 16 (hi * 256 + lo) = v) : decode c p = .ok (.ifCond .lt v, 3) := by
  unfold decode ClassFile.Decoder.instr
  rw [fd_u1b h]
  show (bind (bind ((ClassFile.Reader.s2 : ClassFile.Decoder Int) c (p + 1)) fun x => Except.ok (ClassFile.Instr.ifCond .lt x.1, x.2)) fun (x : ClassFile.Instr × Nat) => Except.ok (x.1, x.2 - p)) = _
  rw [fd_s2 h1 h2 e]
  show Except.ok (ClassFile.Instr.ifCond .lt v, p + 1 + 2 - p) = _
  rw [show p + 1 + 2 - p = 3 from by omega]
theorem dk_156 {c : ByteArray} {p hi lo : Nat} {v : Int} (h : fdB c p 156) (h1 : fdB c (p + 1) hi) (h2 : fdB c (p + 1 + 1) lo) (e : ClassFile.Reader.signed 16 (hi * 256 + lo) = v) : decode c p = .ok (.ifCond .ge v, 3) := by
  unfold decode ClassFile.Decoder.instr
  rw [fd_u1b h]
  show (bind (bind ((ClassFile.Reader.s2 : ClassFile.Decoder Int) c (p + 1)) fun x => Except.ok (ClassFile.Instr.ifCond .ge x.1, x.2)) fun (x : ClassFile.Instr × Nat) => Except.ok (x.1, x.2 - p)) = _
  rw [fd_s2 h1 h2 e]
  show Except.ok (ClassFile.Instr.ifCond .ge v, p + 1 + 2 - p) = _
  rw [show p + 1 + 2 - p = 3 from by omega]
theorem dk_158 {c : ByteArray} {p hi lo : Nat} {v : Int} (h : fdB c p 158) (h1 : fdB c (p + 1) hi) (h2 : fdB c (p + 1 + 1) lo) (e : ClassFile.Reader.signed 16 (hi * 256 + lo) = v) : decode c p = .ok (.ifCond .le v, 3) := by
  unfold decode ClassFile.Decoder.instr
  rw [fd_u1b h]
  show (bind (bind ((ClassFile.Reader.s2 : ClassFile.Decoder Int) c (p + 1)) fun x => Except.ok (ClassFile.Instr.ifCond .le x.1, x.2)) fun (x : ClassFile.Instr × Nat) => Except.ok (x.1, x.2 - p)) = _
  rw [fd_s2 h1 h2 e]
  show Except.ok (ClassFile.Instr.ifCond .le v, p + 1 + 2 - p) = _
  rw [show p + 1 + 2 - p = 3 from by omega]
theorem dk_159 {c : ByteArray} {p hi lo : Nat} {v : Int} (h : fdB c p 159) (h1 : fdB c (p + 1) hi) (h2 : fdB c (p + 1 + 1) lo) (e : ClassFile.Reader.signed 16 (hi * 256 + lo) = v) : decode c p = .ok (.if_icmp .eq v, 3) := by
  unfold decode ClassFile.Decoder.instr
  rw [fd_u1b h]
  show (bind (bind ((ClassFile.Reader.s2 : ClassFile.Decoder Int) c (p + 1)) fun x => Except.ok (ClassFile.Instr.if_icmp .eq x.1, x.2)) fun (x : ClassFile.Instr × Nat) => Except.ok (x.1, x.2 - p)) = _
  rw [fd_s2 h1 h2 e]
  show Except.ok (ClassFile.Instr.if_icmp .eq v, p + 1 + 2 - p) = _
  rw [show p + 1 + 2 - p = 3 from by omega]
theorem dk_160 {c : ByteArray} {p hi lo : Nat} {v : Int} (h : fdB c p 160) (h1 : fdB c (p + 1) hi) (h2 : fdB c (p + 1 + 1) lo) (e : ClassFile.Reader.signed 16 (hi * 256 + lo) = v) : decode c p = .ok (.if_icmp .ne v, 3) := by
  unfold decode ClassFile.Decoder.instr
  rw [fd_u1b h]
  show (bind (bind ((ClassFile.Reader.s2 : ClassFile.Decoder Int) c (p + 1)) fun x => Except.ok (ClassFile.Instr.if_icmp .ne x.1, x.2)) fun (x : ClassFile.Instr × Nat) => Except.ok (x.1, x.2 - p)) = _
  rw [fd_s2 h1 h2 e]
  show Except.ok (ClassFile.Instr.if_icmp .ne v, p + 1 + 2 - p) = _
  rw [show p + 1 + 2 - p = 3 from by omega]
theorem dk_161 {c : ByteArray} {p hi lo : Nat} {v : Int} (h : fdB c p 161) (h1 : fdB c (p + 1) hi) (h2 : fdB c (p + 1 + 1) lo) (e : ClassFile.Reader.signed 16 (hi * 256 + lo) = v) : decode c p = .ok (.if_icmp .lt v, 3) := by
  unfold decode ClassFile.Decoder.instr
  rw [fd_u1b h]
  show (bind (bind ((ClassFile.Reader.s2 : ClassFile.Decoder Int) c (p + 1)) fun x => Except.ok (ClassFile.Instr.if_icmp .lt x.1, x.2)) fun (x : ClassFile.Instr × Nat) => Except.ok (x.1, x.2 - p)) = _
  rw [fd_s2 h1 h2 e]
  show Except.ok (ClassFile.Instr.if_icmp .lt v, p + 1 + 2 - p) = _
  rw [show p + 1 + 2 - p = 3 from by omega]
theorem dk_162 {c : ByteArray} {p hi lo : Nat} {v : Int} (h : fdB c p 162) (h1 : fdB c (p + 1) hi) (h2 : fdB c (p + 1 + 1) lo) (e : ClassFile.Reader.signed 16 (hi * 256 + lo) = v) : decode c p = .ok (.if_icmp .ge v, 3) := by
  unfold decode ClassFile.Decoder.instr
  rw [fd_u1b h]
  show (bind (bind ((ClassFile.Reader.s2 : ClassFile.Decoder Int) c (p + 1)) fun x => Except.ok (ClassFile.Instr.if_icmp .ge x.1, x.2)) fun (x : ClassFile.Instr × Nat) => Except.ok (x.1, x.2 - p)) = _
  rw [fd_s2 h1 h2 e]
  show Except.ok (ClassFile.Instr.if_icmp .ge v, p + 1 + 2 - p) = _
  rw [show p + 1 + 2 - p = 3 from by omega]
theorem dk_163 {c : ByteArray} {p hi lo : Nat} {v : Int} (h : fdB c p 163) (h1 : fdB c (p + 1) hi) (h2 : fdB c (p + 1 + 1) lo) (e : ClassFile.Reader.signed 16 (hi * 256 + lo) = v) : decode c p = .ok (.if_icmp .gt v, 3) := by
  unfold decode ClassFile.Decoder.instr
  rw [fd_u1b h]
  show (bind (bind ((ClassFile.Reader.s2 : ClassFile.Decoder Int) c (p + 1)) fun x => Except.ok (ClassFile.Instr.if_icmp .gt x.1, x.2)) fun (x : ClassFile.Instr × Nat) => Except.ok (x.1, x.2 - p)) = _
  rw [fd_s2 h1 h2 e]
  show Except.ok (ClassFile.Instr.if_icmp .gt v, p + 1 + 2 - p) = _
  rw [show p + 1 + 2 - p = 3 from by omega]
theorem dk_164 {c : ByteArray} {p hi lo : Nat} {v : Int} (h : fdB c p 164) (h1 : fdB c (p + 1) hi) (h2 : fdB c (p + 1 + 1) lo) (e : ClassFile.Reader.signed 16 (hi * 256 + lo) = v) : decode c p = .ok (.if_icmp .le v, 3) := by
  unfold decode ClassFile.Decoder.instr
  rw [fd_u1b h]
  show (bind (bind ((ClassFile.Reader.s2 : ClassFile.Decoder Int) c (p + 1)) fun x => Except.ok (ClassFile.Instr.if_icmp .le x.1, x.2)) fun (x : ClassFile.Instr × Nat) => Except.ok (x.1, x.2 - p)) = _
  rw [fd_s2 h1 h2 e]
  show Except.ok (ClassFile.Instr.if_icmp .le v, p + 1 + 2 - p) = _
  rw [show p + 1 + 2 - p = 3 from by omega]
theorem dk_167 {c : ByteArray} {p hi lo : Nat} {v : Int} (h : fdB c p 167) (h1 : fdB c (p + 1) hi) (h2 : fdB c (p + 1 + 1) lo) (e : ClassFile.Reader.signed 16 (hi * 256 + lo) = v) : decode c p = .ok (.goto v, 3) := by
  unfold decode ClassFile.Decoder.instr
  rw [fd_u1b h]
  show (bind (bind ((ClassFile.Reader.s2 : ClassFile.Decoder Int) c (p + 1)) fun x => Except.ok (ClassFile.Instr.goto x.1, x.2)) fun (x : ClassFile.Instr × Nat) => Except.ok (x.1, x.2 - p)) = _
  rw [fd_s2 h1 h2 e]
  show Except.ok (ClassFile.Instr.goto v, p + 1 + 2 - p) = _
  rw [show p + 1 + 2 - p = 3 from by omega]
theorem dk_172 {c : ByteArray} {p : Nat} (h : fdB c p 172) : decode c p = .ok (.ireturn, 1) := by
  unfold decode ClassFile.Decoder.instr
  rw [fd_u1b h]
  show Except.ok (ClassFile.Instr.ireturn, p + 1 - p) = _
  rw [Nat.add_sub_cancel_left]
theorem dk_173 {c : ByteArray} {p : Nat} (h : fdB c p 173) : decode c p = .ok (.lreturn, 1) := by
  unfold decode ClassFile.Decoder.instr
  rw [fd_u1b h]
  show Except.ok (ClassFile.Instr.lreturn, p + 1 - p) = _
  rw [Nat.add_sub_cancel_left]
theorem dk_177 {c : ByteArray} {p : Nat} (h : fdB c p 177) : decode c p = .ok (.return_, 1) := by
  unfold decode ClassFile.Decoder.instr
  rw [fd_u1b h]
  show Except.ok (ClassFile.Instr.return_, p + 1 - p) = _
  rw [Nat.add_sub_cancel_left]
theorem dk_180 {c : ByteArray} {p hi lo : Nat} (h : fdB c p 180) (h1 : fdB c (p + 1) hi) (h2 : fdB c (p + 1 + 1) lo) : decode c p = .ok (.getfield (hi * 256 + lo), 3) := by
  unfold decode ClassFile.Decoder.instr
  rw [fd_u1b h]
  show (bind (bind ((ClassFile.Reader.u2 : ClassFile.Decoder Nat) c (p + 1)) fun x => Except.ok (ClassFile.Instr.getfield x.1, x.2)) fun (x : ClassFile.Instr × Nat) => Except.ok (x.1, x.2 - p)) = _
  rw [fd_u2 h1 h2]
  show Except.ok (ClassFile.Instr.getfield (hi * 256 + lo), p + 1 + 2 - p) = _
  rw [show p + 1 + 2 - p = 3 from by omega]
theorem dk_181 {c : ByteArray} {p hi lo : Nat} (h : fdB c p 181) (h1 : fdB c (p + 1) hi) (h2 : fdB c (p + 1 + 1) lo) : decode c p = .ok (.putfield (hi * 256 + lo), 3) := by
  unfold decode ClassFile.Decoder.instr
  rw [fd_u1b h]
  show (bind (bind ((ClassFile.Reader.u2 : ClassFile.Decoder Nat) c (p + 1)) fun x => Except.ok (ClassFile.Instr.putfield x.1, x.2)) fun (x : ClassFile.Instr × Nat) => Except.ok (x.1, x.2 - p)) = _
  rw [fd_u2 h1 h2]
  show Except.ok (ClassFile.Instr.putfield (hi * 256 + lo), p + 1 + 2 - p) = _
  rw [show p + 1 + 2 - p = 3 from by omega]
theorem dk_182 {c : ByteArray} {p hi lo : Nat} (h : fdB c p 182) (h1 : fdB c (p + 1) hi) (h2 : fdB c (p + 1 + 1) lo) : decode c p = .ok (.invokevirtual (hi * 256 + lo), 3) := by
  unfold decode ClassFile.Decoder.instr
  rw [fd_u1b h]
  show (bind (bind ((ClassFile.Reader.u2 : ClassFile.Decoder Nat) c (p + 1)) fun x => Except.ok (ClassFile.Instr.invokevirtual x.1, x.2)) fun (x : ClassFile.Instr × Nat) => Except.ok (x.1, x.2 - p)) = _
  rw [fd_u2 h1 h2]
  show Except.ok (ClassFile.Instr.invokevirtual (hi * 256 + lo), p + 1 + 2 - p) = _
  rw [show p + 1 + 2 - p = 3 from by omega]
theorem dk_183 {c : ByteArray} {p hi lo : Nat} (h : fdB c p 183) (h1 : fdB c (p + 1) hi) (h2 : fdB c (p + 1 + 1) lo) : decode c p = .ok (.invokespecial (hi * 256 + lo), 3) := by
  unfold decode ClassFile.Decoder.instr
  rw [fd_u1b h]
  show (bind (bind ((ClassFile.Reader.u2 : ClassFile.Decoder Nat) c (p + 1)) fun x => Except.ok (ClassFile.Instr.invokespecial x.1, x.2)) fun (x : ClassFile.Instr × Nat) => Except.ok (x.1, x.2 - p)) = _
  rw [fd_u2 h1 h2]
  show Except.ok (ClassFile.Instr.invokespecial (hi * 256 + lo), p + 1 + 2 - p) = _
  rw [show p + 1 + 2 - p = 3 from by omega]
theorem dk_184 {c : ByteArray} {p hi lo : Nat} (h : fdB c p 184) (h1 : fdB c (p + 1) hi) (h2 : fdB c (p + 1 + 1) lo) : decode c p = .ok (.invokestatic (hi * 256 + lo), 3) := by
  unfold decode ClassFile.Decoder.instr
  rw [fd_u1b h]
  show (bind (bind ((ClassFile.Reader.u2 : ClassFile.Decoder Nat) c (p + 1)) fun x => Except.ok (ClassFile.Instr.invokestatic x.1, x.2)) fun (x : ClassFile.Instr × Nat) => Except.ok (x.1, x.2 - p)) = _
  rw [fd_u2 h1 h2]
  show Except.ok (ClassFile.Instr.invokestatic (hi * 256 + lo), p + 1 + 2 - p) = _
  rw [show p + 1 + 2 - p = 3 from by omega]
theorem dk_187 {c : ByteArray} {p hi lo : Nat} (h : fdB c p 187) (h1 : fdB c (p + 1) hi) (h2 : fdB c (p + 1 + 1) lo) : decode c p = .ok (.new (hi * 256 + lo), 3) := by
  unfold decode ClassFile.Decoder.instr
  rw [fd_u1b h]
  show (bind (bind ((ClassFile.Reader.u2 : ClassFile.Decoder Nat) c (p + 1)) fun x => Except.ok (ClassFile.Instr.new x.1, x.2)) fun (x : ClassFile.Instr × Nat) => Except.ok (x.1, x.2 - p)) = _
  rw [fd_u2 h1 h2]
  show Except.ok (ClassFile.Instr.new (hi * 256 + lo), p + 1 + 2 - p) = _
  rw [show p + 1 + 2 - p = 3 from by omega]
theorem dk_190 {c : ByteArray} {p : Nat} (h : fdB c p 190) : decode c p = .ok (.arraylength, 1) := by
  unfold decode ClassFile.Decoder.instr
  rw [fd_u1b h]
  show Except.ok (ClassFile.Instr.arraylength, p + 1 - p) = _
  rw [Nat.add_sub_cancel_left]
theorem dk_199 {c : ByteArray} {p hi lo : Nat} {v : Int} (h : fdB c p 199) (h1 : fdB c (p + 1) hi) (h2 : fdB c (p + 1 + 1) lo) (e : ClassFile.Reader.signed 16 (hi * 256 + lo) = v) : decode c p = .ok (.ifnonnull v, 3) := by
  unfold decode ClassFile.Decoder.instr
  rw [fd_u1b h]
  show (bind (bind ((ClassFile.Reader.s2 : ClassFile.Decoder Int) c (p + 1)) fun x => Except.ok (ClassFile.Instr.ifnonnull x.1, x.2)) fun (x : ClassFile.Instr × Nat) => Except.ok (x.1, x.2 - p)) = _
  rw [fd_s2 h1 h2 e]
  show Except.ok (ClassFile.Instr.ifnonnull v, p + 1 + 2 - p) = _
  rw [show p + 1 + 2 - p = 3 from by omega]
