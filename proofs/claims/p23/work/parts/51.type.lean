/-! ===== bytes typed, rates ===== -/
def tyv (x : Int64) (k : Nat) : Int32 := Int64.toInt32 ((x >>> ((8 * nI k).toInt64 &&& 63)) &&& 255)
theorem and255 (x : Int32) : Lb (x &&& 255) 256 := by
  refine ⟨(x &&& 255).toBitVec.toNat, ?_, ?_⟩
  · rw [Int32.toBitVec_and, BitVec.toNat_and]
    have h : (255 : Int32).toBitVec.toNat = 255 := by decide
    rw [h]
    have := @Nat.and_le_right x.toBitVec.toNat 255
    omega
  · apply Int32.toBitVec_inj.mp
    unfold nI
    rw [Int32.toBitVec_ofNat', BitVec.ofNat_toNat, BitVec.setWidth_eq]
theorem sh_amt : ∀ k : Fin 8, ((8 * nI k.val).toInt64 &&& 63 : Int64) = Int64.ofNat (8 * k.val) ∧ ((8 * nI k.val).toInt64.toUInt64 &&& Int64.toUInt64 63 : UInt64) = UInt64.ofNat (8 * k.val) := by decide +kernel
theorem sh_bits (x : Int64) : ∀ k : Fin 8, (Int64.toInt32 (x.toUInt64 >>> UInt64.ofNat (8 * k.val)).toInt64) &&& 255 = Int64.toInt32 ((x >>> Int64.ofNat (8 * k.val)) &&& 255) := by
  intro k
  apply Int32.toBitVec_inj.mp
  apply BitVec.eq_of_getLsbD_eq
  intro j hj
  have hk := k.isLt
  have e1 : (Int64.ofNat (8 * k.val)).toBitVec.smod 64 = BitVec.ofNat 64 (8 * k.val) := by
    have h : ∀ k : Fin 8, (Int64.ofNat (8 * k.val)).toBitVec.smod 64 = BitVec.ofNat 64 (8 * k.val) := by decide +kernel
    exact h k
  have e2 : (UInt64.ofNat (8 * k.val)).toBitVec % 64 = BitVec.ofNat 64 (8 * k.val) := by
    have h : ∀ k : Fin 8, (UInt64.ofNat (8 * k.val)).toBitVec % 64 = BitVec.ofNat 64 (8 * k.val) := by decide +kernel
    exact h k
  have e3 : (BitVec.ofNat 64 (8 * k.val)).toNat = 8 * k.val := by
    rw [BitVec.toNat_ofNat]; omega
  have e4 : (255 : Int32).toBitVec.getLsbD j = decide (j < 8) := by
    have h : ∀ j : Fin 32, (255 : Int32).toBitVec.getLsbD j.val = decide (j.val < 8) := by decide +kernel
    exact h ⟨j, hj⟩
  have e5 : (255 : Int64).toBitVec.getLsbD j = decide (j < 8) := by
    have h : ∀ j : Fin 32, (255 : Int64).toBitVec.getLsbD j.val = decide (j.val < 8) := by decide +kernel
    exact h ⟨j, hj⟩
  have e6 : (x.toUInt64 >>> UInt64.ofNat (8 * k.val)).toInt64.toBitVec = x.toBitVec >>> (8 * k.val) := by
    show (x.toUInt64 >>> UInt64.ofNat (8 * k.val)).toBitVec = _
    rw [UInt64.toBitVec_shiftRight, e2, BitVec.ushiftRight_eq', e3]
    rfl
  have e7 : (x >>> Int64.ofNat (8 * k.val)).toBitVec = x.toBitVec.sshiftRight (8 * k.val) := by
    rw [Int64.toBitVec_shiftRight, e1, BitVec.sshiftRight_eq', e3]
  rw [Int32.toBitVec_and, BitVec.getLsbD_and, e4, Int64.toBitVec_toInt32, Int64.toBitVec_toInt32, e6, Int64.toBitVec_and, e7]
  rw [BitVec.getLsbD_signExtend, BitVec.getLsbD_signExtend, if_pos (show j < 64 from by omega), if_pos (show j < 64 from by omega), BitVec.getLsbD_and, e5, BitVec.getLsbD_ushiftRight, BitVec.getLsbD_sshiftRight]
  by_cases h8 : j < 8
  · have a1 : ¬ 64 ≤ j := by omega
    have a2 : 8 * k.val + j < 64 := by omega
    simp [h8, hj, a1, a2]
  · simp [h8]
theorem ty_eq (x : Int64) {k : Nat} (hk : k < 8) : (Int64.toInt32 (x.toUInt64 >>> ((8 * nI k).toInt64.toUInt64 &&& Int64.toUInt64 63)).toInt64) &&& 255 = tyv x k := by
  unfold tyv
  rw [(sh_amt ⟨k, hk⟩).2, (sh_amt ⟨k, hk⟩).1]
  exact sh_bits x ⟨k, hk⟩
theorem ty_lb (x : Int64) {k : Nat} (hk : k < 8) : Lb (tyv x k) 256 := by
  rw [← ty_eq x hk]; exact and255 _
/-- the row with n bytes of x behind T of r -/
def tyR (r : Nat → Int32) (T n : Nat) (x : Int64) : Nat → Int32 := fun k => if k < T then r k else tyv x (n - 1 - (k - T))
theorem by2 (x : Int32) : vp_nar .byte (Int8.toInt32 (Int32.toInt8 x)) = x.toInt8.toInt32 := by
  rw [vp_nar_byte, Int8.toInt8_toInt32]
theorem typeX_lp {T n : Nat} (hn : n ≤ 8) (hT : T + n ≤ 500) (o : S11) (x : Int64) (x3 : Int32) {r : Nat → Int32} {tx : S8} (h : TX tx T r) : An (F_X11_type_b36 o x x3 fu (nI n - 1) tx) (fun q => q.1 = nI (T + n) ∧ TX q.2 (T + n) (tyR r T n x)) := by
  refine lp_dn (fun f v s => F_X11_type_b36 o x x3 f v s) (fun m s => m ≤ n ∧ s8_length s = nI (T + n - m) ∧ ∀ k, k < T + n - m → s8_bytes s k = (tyR r T n x k).toInt8.toInt32) _ ?_ ?_ fu n tx (by unfold fu; omega) ⟨Nat.le_refl n, ?_, ?_⟩
  · intro f m s ⟨h1, h2, h3⟩ hk
    show An (F_X11_type_b36 o x x3 (f + 1) (nI m) s) _
    rw [F_X11_type_b36]
    rw [if_neg (nI_pos (by omega)), ty_eq x (show m < 8 from by omega)]
    unfold F_X8_append
    simp (disch := omega) only [h2, by2, nm_at, Option.bind_some, if_true, if_false, ↓k_m1, ↓k_m2, ↓k_m3, ↓k_m5, ↓k_m9, ↓k_m10, ↓k_mno, k_0, k_1, k_2, k_3, k_4, k_5, k_6, k_7, k_8, k_9, k_10, k_11, k_12, k_13, k_14, k_15, k_16, k_17, k_18, k_19, k_20, k_21, k_22, k_23, k_24, k_25, k_26, k_27, k_28, k_29, k_30, k_31, k_32, k_36, k_48, k_50, k_57, k_58, k_59, k_64, k_97, k_99, k_100, k_101, k_102, k_104, k_105, k_107, k_108, k_109, k_110, k_111, k_114, k_115, k_116, k_119, k_122, k_128, k_255, k_500, k_1000, k_1023, k_10000, k_100000, nI_add, nI_mul, nI_sub, nI_sub0, nI_leI, nI_ltI, nI_eq, nM_lt, nM_le, nM_nlt, nM_nle, nM_ne, nM_ne', nM_eq, q_ii, q_ia, q_ij, q_it, q_aa, q_ai, q_aj, q_at, q_jj, q_ji, q_ja, q_jt, q_tt, q_ti, q_ta, q_tj, u_at, uL_at, Nat.zero_mul, Nat.mul_zero, Nat.one_mul, Nat.mul_one, Nat.zero_add, Nat.add_zero, nI_toInt, agN, asN, agLN, asLN, atvN, setvN, if_pos, if_neg]
    rw [show nI m - nI 1 = nI m - 1 from rfl]
    refine hk _ ⟨by omega, ?_, ?_⟩
    · show s8_length s + nI 1 = nI (T + n - m)
      rw [h2, nI_add]
      exact congrArg nI (by omega)
    · intro k hk2
      show upd (s8_bytes s) (T + n - (m + 1)) _ k = _
      by_cases e : k = T + n - (m + 1)
      · rw [u_at, if_pos e, e]
        unfold tyR
        rw [if_neg (by omega)]
        exact congrArg (fun q => (tyv x q).toInt8.toInt32) (by omega)
      · rw [u_at, if_neg e]
        exact h3 k (by omega)
  · intro f s ⟨h1, h2, h3⟩
    show An (F_X11_type_b36 o x x3 (f + 1) (nI 0 - 1) s) _
    rw [F_X11_type_b36]
    unfold F_X8_length
    simp (disch := omega) only [nm_at, Option.bind_some, if_true, if_false, ↓k_m1, ↓k_m2, ↓k_m3, ↓k_m5, ↓k_m9, ↓k_m10, ↓k_mno, k_0, k_1, k_2, k_3, k_4, k_5, k_6, k_7, k_8, k_9, k_10, k_11, k_12, k_13, k_14, k_15, k_16, k_17, k_18, k_19, k_20, k_21, k_22, k_23, k_24, k_25, k_26, k_27, k_28, k_29, k_30, k_31, k_32, k_36, k_48, k_50, k_57, k_58, k_59, k_64, k_97, k_99, k_100, k_101, k_102, k_104, k_105, k_107, k_108, k_109, k_110, k_111, k_114, k_115, k_116, k_119, k_122, k_128, k_255, k_500, k_1000, k_1023, k_10000, k_100000, nI_add, nI_mul, nI_sub, nI_sub0, nI_leI, nI_ltI, nI_eq, nM_lt, nM_le, nM_nlt, nM_nle, nM_ne, nM_ne', nM_eq, q_ii, q_ia, q_ij, q_it, q_aa, q_ai, q_aj, q_at, q_jj, q_ji, q_ja, q_jt, q_tt, q_ti, q_ta, q_tj, u_at, uL_at, Nat.zero_mul, Nat.mul_zero, Nat.one_mul, Nat.mul_one, Nat.zero_add, Nat.add_zero, nI_toInt, agN, asN, agLN, asLN, atvN, setvN, if_pos, if_neg]
    refine An_some ⟨h2, hT, h2, fun k hk => ⟨?_, h3 k hk⟩⟩
    unfold tyR
    by_cases e : k < T
    · rw [if_pos e]; exact (h.2.2 k e).1
    · rw [if_neg e]; exact ty_lb x (by omega)
  · rw [h.2.1]; exact congrArg nI (by omega)
  · intro k hk
    unfold tyR
    rw [if_pos (by omega)]
    exact (h.2.2 k (by omega)).2
theorem typeM_lp {T n : Nat} (hn : n ≤ 8) (hT : T + n ≤ 500) (x : Int64) (x3 : Int32) {ms : SM} (h : mI ms 3 = nI T) : An (F_X12_type_b37 x x3 fu (nI n - 1) ms) (fun q => q.1 = nI (T + n) ∧ Fr [3] [2] [] ms q.2 ∧ mI q.2 3 = nI (T + n) ∧ ∀ k, k < T + n → mA q.2 2 k = tyR (mA ms 2) T n x k) := by
  refine lp_dn (fun f v s => F_X12_type_b37 x x3 f v s) (fun m s => m ≤ n ∧ Fr [3] [2] [] ms s ∧ mI s 3 = nI (T + n - m) ∧ ∀ k, k < T + n - m → mA s 2 k = tyR (mA ms 2) T n x k) _ ?_ ?_ fu n ms (by unfold fu; omega) ⟨Nat.le_refl n, Fr.rf _, ?_, ?_⟩
  · intro f m s ⟨h1, h0, h2, h3⟩ hk
    show An (F_X12_type_b37 x x3 (f + 1) (nI m) s) _
    rw [F_X12_type_b37]
    rw [if_neg (nI_pos (by omega)), show Int64.toInt32 ((x >>> ((8 * nI m).toInt64 &&& 63)) &&& 255) = tyv x m from rfl, h2]
    simp (disch := omega) only [h2, nm_at, Option.bind_some, if_true, if_false, ↓k_m1, ↓k_m2, ↓k_m3, ↓k_m5, ↓k_m9, ↓k_m10, ↓k_mno, k_0, k_1, k_2, k_3, k_4, k_5, k_6, k_7, k_8, k_9, k_10, k_11, k_12, k_13, k_14, k_15, k_16, k_17, k_18, k_19, k_20, k_21, k_22, k_23, k_24, k_25, k_26, k_27, k_28, k_29, k_30, k_31, k_32, k_36, k_48, k_50, k_57, k_58, k_59, k_64, k_97, k_99, k_100, k_101, k_102, k_104, k_105, k_107, k_108, k_109, k_110, k_111, k_114, k_115, k_116, k_119, k_122, k_128, k_255, k_500, k_1000, k_1023, k_10000, k_100000, nI_add, nI_mul, nI_sub, nI_sub0, nI_leI, nI_ltI, nI_eq, nM_lt, nM_le, nM_nlt, nM_nle, nM_ne, nM_ne', nM_eq, q_ii, q_ia, q_ij, q_it, q_aa, q_ai, q_aj, q_at, q_jj, q_ji, q_ja, q_jt, q_tt, q_ti, q_ta, q_tj, u_at, uL_at, Nat.zero_mul, Nat.mul_zero, Nat.one_mul, Nat.mul_one, Nat.zero_add, Nat.add_zero, nI_toInt, agN, asN, agLN, asLN, atvN, setvN, if_pos, if_neg]
    rw [show nI m - nI 1 = nI m - 1 from rfl]
    refine hk _ ⟨by omega, (h0.a 2 _ (by decide)).i 3 _ (by decide), ?_, ?_⟩
    · simp (disch := omega) only [nm_at, Option.bind_some, if_true, if_false, ↓k_m1, ↓k_m2, ↓k_m3, ↓k_m5, ↓k_m9, ↓k_m10, ↓k_mno, k_0, k_1, k_2, k_3, k_4, k_5, k_6, k_7, k_8, k_9, k_10, k_11, k_12, k_13, k_14, k_15, k_16, k_17, k_18, k_19, k_20, k_21, k_22, k_23, k_24, k_25, k_26, k_27, k_28, k_29, k_30, k_31, k_32, k_36, k_48, k_50, k_57, k_58, k_59, k_64, k_97, k_99, k_100, k_101, k_102, k_104, k_105, k_107, k_108, k_109, k_110, k_111, k_114, k_115, k_116, k_119, k_122, k_128, k_255, k_500, k_1000, k_1023, k_10000, k_100000, nI_add, nI_mul, nI_sub, nI_sub0, nI_leI, nI_ltI, nI_eq, nM_lt, nM_le, nM_nlt, nM_nle, nM_ne, nM_ne', nM_eq, q_ii, q_ia, q_ij, q_it, q_aa, q_ai, q_aj, q_at, q_jj, q_ji, q_ja, q_jt, q_tt, q_ti, q_ta, q_tj, u_at, uL_at, Nat.zero_mul, Nat.mul_zero, Nat.one_mul, Nat.mul_one, Nat.zero_add, Nat.add_zero, nI_toInt, agN, asN, agLN, asLN, atvN, setvN, if_pos, if_neg]; omega
    · intro k hk2
      by_cases e : k = T + n - (m + 1)
      · simp (disch := omega) only [e, nm_at, Option.bind_some, if_true, if_false, ↓k_m1, ↓k_m2, ↓k_m3, ↓k_m5, ↓k_m9, ↓k_m10, ↓k_mno, k_0, k_1, k_2, k_3, k_4, k_5, k_6, k_7, k_8, k_9, k_10, k_11, k_12, k_13, k_14, k_15, k_16, k_17, k_18, k_19, k_20, k_21, k_22, k_23, k_24, k_25, k_26, k_27, k_28, k_29, k_30, k_31, k_32, k_36, k_48, k_50, k_57, k_58, k_59, k_64, k_97, k_99, k_100, k_101, k_102, k_104, k_105, k_107, k_108, k_109, k_110, k_111, k_114, k_115, k_116, k_119, k_122, k_128, k_255, k_500, k_1000, k_1023, k_10000, k_100000, nI_add, nI_mul, nI_sub, nI_sub0, nI_leI, nI_ltI, nI_eq, nM_lt, nM_le, nM_nlt, nM_nle, nM_ne, nM_ne', nM_eq, q_ii, q_ia, q_ij, q_it, q_aa, q_ai, q_aj, q_at, q_jj, q_ji, q_ja, q_jt, q_tt, q_ti, q_ta, q_tj, u_at, uL_at, Nat.zero_mul, Nat.mul_zero, Nat.one_mul, Nat.mul_one, Nat.zero_add, Nat.add_zero, nI_toInt, agN, asN, agLN, asLN, atvN, setvN, if_pos, if_neg]
        unfold tyR
        rw [if_neg (by omega)]
        exact congrArg (tyv x) (by omega)
      · simp (disch := omega) only [nm_at, Option.bind_some, if_true, if_false, ↓k_m1, ↓k_m2, ↓k_m3, ↓k_m5, ↓k_m9, ↓k_m10, ↓k_mno, k_0, k_1, k_2, k_3, k_4, k_5, k_6, k_7, k_8, k_9, k_10, k_11, k_12, k_13, k_14, k_15, k_16, k_17, k_18, k_19, k_20, k_21, k_22, k_23, k_24, k_25, k_26, k_27, k_28, k_29, k_30, k_31, k_32, k_36, k_48, k_50, k_57, k_58, k_59, k_64, k_97, k_99, k_100, k_101, k_102, k_104, k_105, k_107, k_108, k_109, k_110, k_111, k_114, k_115, k_116, k_119, k_122, k_128, k_255, k_500, k_1000, k_1023, k_10000, k_100000, nI_add, nI_mul, nI_sub, nI_sub0, nI_leI, nI_ltI, nI_eq, nM_lt, nM_le, nM_nlt, nM_nle, nM_ne, nM_ne', nM_eq, q_ii, q_ia, q_ij, q_it, q_aa, q_ai, q_aj, q_at, q_jj, q_ji, q_ja, q_jt, q_tt, q_ti, q_ta, q_tj, u_at, uL_at, Nat.zero_mul, Nat.mul_zero, Nat.one_mul, Nat.mul_one, Nat.zero_add, Nat.add_zero, nI_toInt, agN, asN, agLN, asLN, atvN, setvN, if_pos, if_neg]
        exact h3 k (by omega)
  · intro f s ⟨h1, h0, h2, h3⟩
    show An (F_X12_type_b37 x x3 (f + 1) (nI 0 - 1) s) _
    rw [F_X12_type_b37]
    simp (disch := omega) only [nm_at, Option.bind_some, if_true, if_false, ↓k_m1, ↓k_m2, ↓k_m3, ↓k_m5, ↓k_m9, ↓k_m10, ↓k_mno, k_0, k_1, k_2, k_3, k_4, k_5, k_6, k_7, k_8, k_9, k_10, k_11, k_12, k_13, k_14, k_15, k_16, k_17, k_18, k_19, k_20, k_21, k_22, k_23, k_24, k_25, k_26, k_27, k_28, k_29, k_30, k_31, k_32, k_36, k_48, k_50, k_57, k_58, k_59, k_64, k_97, k_99, k_100, k_101, k_102, k_104, k_105, k_107, k_108, k_109, k_110, k_111, k_114, k_115, k_116, k_119, k_122, k_128, k_255, k_500, k_1000, k_1023, k_10000, k_100000, nI_add, nI_mul, nI_sub, nI_sub0, nI_leI, nI_ltI, nI_eq, nM_lt, nM_le, nM_nlt, nM_nle, nM_ne, nM_ne', nM_eq, q_ii, q_ia, q_ij, q_it, q_aa, q_ai, q_aj, q_at, q_jj, q_ji, q_ja, q_jt, q_tt, q_ti, q_ta, q_tj, u_at, uL_at, Nat.zero_mul, Nat.mul_zero, Nat.one_mul, Nat.mul_one, Nat.zero_add, Nat.add_zero, nI_toInt, agN, asN, agLN, asLN, atvN, setvN, if_pos, if_neg]
    exact An_some ⟨h2, h0, h2, h3⟩
  · rw [h]; exact congrArg nI (by omega)
  · intro k hk
    unfold tyR
    rw [if_pos (by omega)]
theorem typeX_ok {T n : Nat} (hn : n ≤ 8) (h1 : 1 ≤ n) (hT : T + n ≤ 500) (o : S11) (x : Int64) {r : Nat → Int32} {tx : S8} (h : TX tx T r) : An (F_X11_type o tx x (nI n)) (fun q => q.1 = nI (T + n) ∧ TX q.2 (T + n) (tyR r T n x)) := by
  have f1 := typeX_lp hn hT o x (nI n) h
  rw [show nI n - 1 = nI (n - 1) from nI_sub (a := n) (b := 1) h1] at f1
  have e := h.2.1
  unfold F_X11_type F_X8_length
  simp (disch := omega) only [e, nm_at, Option.bind_some, if_true, if_false, ↓k_m1, ↓k_m2, ↓k_m3, ↓k_m5, ↓k_m9, ↓k_m10, ↓k_mno, k_0, k_1, k_2, k_3, k_4, k_5, k_6, k_7, k_8, k_9, k_10, k_11, k_12, k_13, k_14, k_15, k_16, k_17, k_18, k_19, k_20, k_21, k_22, k_23, k_24, k_25, k_26, k_27, k_28, k_29, k_30, k_31, k_32, k_36, k_48, k_50, k_57, k_58, k_59, k_64, k_97, k_99, k_100, k_101, k_102, k_104, k_105, k_107, k_108, k_109, k_110, k_111, k_114, k_115, k_116, k_119, k_122, k_128, k_255, k_500, k_1000, k_1023, k_10000, k_100000, nI_add, nI_mul, nI_sub, nI_sub0, nI_leI, nI_ltI, nI_eq, nM_lt, nM_le, nM_nlt, nM_nle, nM_ne, nM_ne', nM_eq, q_ii, q_ia, q_ij, q_it, q_aa, q_ai, q_aj, q_at, q_jj, q_ji, q_ja, q_jt, q_tt, q_ti, q_ta, q_tj, u_at, uL_at, Nat.zero_mul, Nat.mul_zero, Nat.one_mul, Nat.mul_one, Nat.zero_add, Nat.add_zero, nI_toInt, agN, asN, agLN, asLN, atvN, setvN, if_pos, if_neg]
  exact f1
theorem typeM_ok {T n : Nat} (hn : n ≤ 8) (h1 : 1 ≤ n) (hT : T + n ≤ 500) (x : Int64) {ms : SM} (h : mI ms 3 = nI T) : An (F_X12_type ms x (nI n)) (fun q => q.1 = nI (T + n) ∧ Fr [3] [2] [] (mIs ms 0 (nI 0)) q.2 ∧ mI q.2 3 = nI (T + n) ∧ ∀ k, k < T + n → mA q.2 2 k = tyR (mA ms 2) T n x k) := by
  have g1 := typeM_lp hn hT x (nI n) (ms := mIs ms 0 (nI 0)) h
  rw [show nI n - 1 = nI (n - 1) from nI_sub (a := n) (b := 1) h1] at g1
  unfold F_X12_type
  simp (disch := omega) only [in_rng, if10, h, nm_at, Option.bind_some, if_true, if_false, ↓k_m1, ↓k_m2, ↓k_m3, ↓k_m5, ↓k_m9, ↓k_m10, ↓k_mno, k_0, k_1, k_2, k_3, k_4, k_5, k_6, k_7, k_8, k_9, k_10, k_11, k_12, k_13, k_14, k_15, k_16, k_17, k_18, k_19, k_20, k_21, k_22, k_23, k_24, k_25, k_26, k_27, k_28, k_29, k_30, k_31, k_32, k_36, k_48, k_50, k_57, k_58, k_59, k_64, k_97, k_99, k_100, k_101, k_102, k_104, k_105, k_107, k_108, k_109, k_110, k_111, k_114, k_115, k_116, k_119, k_122, k_128, k_255, k_500, k_1000, k_1023, k_10000, k_100000, nI_add, nI_mul, nI_sub, nI_sub0, nI_leI, nI_ltI, nI_eq, nM_lt, nM_le, nM_nlt, nM_nle, nM_ne, nM_ne', nM_eq, q_ii, q_ia, q_ij, q_it, q_aa, q_ai, q_aj, q_at, q_jj, q_ji, q_ja, q_jt, q_tt, q_ti, q_ta, q_tj, u_at, uL_at, Nat.zero_mul, Nat.mul_zero, Nat.one_mul, Nat.mul_one, Nat.zero_add, Nat.add_zero, nI_toInt, agN, asN, agLN, asLN, atvN, setvN, if_pos, if_neg]
  exact g1
theorem op_type {st : SX} {ms : SM} (h : Inv st ms) (a1 : Int64) (a2 : Int32) : ∃ (r r2 : Int32) (st2 : SX) (ms2 : SM), X_type st a1 a2 = some (r, st2) ∧ M_type ms a1 a2 = some (r2, ms2) ∧ r = r2 ∧ Inv st2 ms2 := by
  obtain ⟨o, tx, ve, tr, me, gu, ch, row, i1, i2, t7, t10, t1, tp, ts, p7, p10, p1, pp, ps⟩ := st
  obtain ⟨W, F, P, S, T, ⟨hW, hF, hP, hS, hT⟩, hTX, hWR, hFR, hMR, hLP, hLS, hI1, hI2, hMo, hTr⟩ := (show IV o tx tr row i1 i2 t7 t10 t1 tp ts pp ps ms from h)
  have hP8 := hLP.1
  have hW16 := hWR.1
  have hF2 := hFR.1
  have hS6 := hLS.1
  have hs := hLP.2.2.1.1
  have hT5 := hTX.1
  have hTl := hTX.2.1
  by_cases c : (1 : Nat) ≤ a2.toInt ∧ a2.toInt ≤ (8 : Nat)
  · obtain ⟨n, hn, rfl⟩ := Lb.of (n := 9) (x := a2) (by omega)
    rw [nI_toInt (by omega)] at c
    by_cases c2 : T + n ≤ 500
    · obtain ⟨q, f1, f2, f3⟩ := typeX_ok (n := n) (by omega) (by omega) c2 o a1 hTX
      obtain ⟨q2, g1, g2, g3, g4, g5⟩ := typeM_ok (n := n) (by omega) (by omega) c2 a1 hT
      refine ⟨q.1, q2.1, (o, q.2, ve, tr, me, gu, ch, row, i1, i2, t7, t10, t1, tp, ts, p7, p10, p1, pp, ps), q2.2, ?_, ?_, f2.trans g2.symm, ?_⟩
      · unfold X_type; simp only [f1]; rfl
      · unfold M_type; simp only [g1]; rfl
      · have hfr : Fr [0, 3] [2] [] ms q2.2 := ((Fr.rf ms).i 0 (nI 0) (by decide)).tr (g3.wd (by simp) (fun _ x => x) (by simp))
        refine ⟨W, F, P, S, T + n, ⟨?_, ?_, ?_, ?_, g4⟩, ?_, ?_, ?_, ?_, ?_, ?_, ?_, ?_, hMo, ?_⟩
        · rw [hfr.1 13 (by decide)]; exact hW
        · rw [hfr.1 14 (by decide)]; exact hF
        · rw [hfr.2.1 21 (by decide)]; exact hP
        · rw [hfr.1 15 (by decide)]; exact hS
        · refine ⟨f3.1, f3.2.1, fun k hk => ?_⟩
          rw [g5 k hk]; exact f3.2.2 k hk
        · rw [hfr.2.1 9 (by decide)]; exact hWR
        · rw [hfr.2.1 10 (by decide)]; exact hFR
        · rw [hfr.2.1 11 (by decide)]; exact hMR
        · rw [hfr.2.1 21 (by decide)]; exact hLP
        · rw [hfr.2.1 12 (by decide)]; exact hLS
        · exact hI1.rest rfl (by rw [hfr.2.1 23 (by decide)]) (fun j _ => by rw [hfr.2.1 22 (by decide)])
        · exact hI2.rest rfl (by rw [hfr.2.1 23 (by decide)]) (fun j _ => by rw [hfr.2.1 22 (by decide)])
        · rw [hfr.2.2.2]; exact hTr
    · refine ⟨nM 3, nM 3, (o, tx, ve, tr, me, gu, ch, row, i1, i2, t7, t10, t1, tp, ts, p7, p10, p1, pp, ps), mIs ms 0 (nI 0), ?_, ?_, rfl, IV.f0 h (fr0 ms)⟩
      · unfold X_type F_X11_type F_X8_length
        simp (disch := omega) only [hTl, Option.map_some, nm_at, Option.bind_some, if_true, if_false, ↓k_m1, ↓k_m2, ↓k_m3, ↓k_m5, ↓k_m9, ↓k_m10, ↓k_mno, k_0, k_1, k_2, k_3, k_4, k_5, k_6, k_7, k_8, k_9, k_10, k_11, k_12, k_13, k_14, k_15, k_16, k_17, k_18, k_19, k_20, k_21, k_22, k_23, k_24, k_25, k_26, k_27, k_28, k_29, k_30, k_31, k_32, k_36, k_48, k_50, k_57, k_58, k_59, k_64, k_97, k_99, k_100, k_101, k_102, k_104, k_105, k_107, k_108, k_109, k_110, k_111, k_114, k_115, k_116, k_119, k_122, k_128, k_255, k_500, k_1000, k_1023, k_10000, k_100000, nI_add, nI_mul, nI_sub, nI_sub0, nI_leI, nI_ltI, nI_eq, nM_lt, nM_le, nM_nlt, nM_nle, nM_ne, nM_ne', nM_eq, q_ii, q_ia, q_ij, q_it, q_aa, q_ai, q_aj, q_at, q_jj, q_ji, q_ja, q_jt, q_tt, q_ti, q_ta, q_tj, u_at, uL_at, Nat.zero_mul, Nat.mul_zero, Nat.one_mul, Nat.mul_one, Nat.zero_add, Nat.add_zero, nI_toInt, agN, asN, agLN, asLN, atvN, setvN, if_pos, if_neg]
      · unfold M_type F_X12_type
        simp (disch := omega) only [in_rng, if10, hT, Option.map_some, nm_at, Option.bind_some, if_true, if_false, ↓k_m1, ↓k_m2, ↓k_m3, ↓k_m5, ↓k_m9, ↓k_m10, ↓k_mno, k_0, k_1, k_2, k_3, k_4, k_5, k_6, k_7, k_8, k_9, k_10, k_11, k_12, k_13, k_14, k_15, k_16, k_17, k_18, k_19, k_20, k_21, k_22, k_23, k_24, k_25, k_26, k_27, k_28, k_29, k_30, k_31, k_32, k_36, k_48, k_50, k_57, k_58, k_59, k_64, k_97, k_99, k_100, k_101, k_102, k_104, k_105, k_107, k_108, k_109, k_110, k_111, k_114, k_115, k_116, k_119, k_122, k_128, k_255, k_500, k_1000, k_1023, k_10000, k_100000, nI_add, nI_mul, nI_sub, nI_sub0, nI_leI, nI_ltI, nI_eq, nM_lt, nM_le, nM_nlt, nM_nle, nM_ne, nM_ne', nM_eq, q_ii, q_ia, q_ij, q_it, q_aa, q_ai, q_aj, q_at, q_jj, q_ji, q_ja, q_jt, q_tt, q_ti, q_ta, q_tj, u_at, uL_at, Nat.zero_mul, Nat.mul_zero, Nat.one_mul, Nat.mul_one, Nat.zero_add, Nat.add_zero, nI_toInt, agN, asN, agLN, asLN, atvN, setvN, if_pos, if_neg]
  · have x1 : F_X11_type o tx a1 a2 = some (nM 1, tx) := by
      unfold F_X11_type
      by_cases hx : a2.toInt < 1
      · rw [if_pos (by rw [i_lt]; exact hx)]; rfl
      · rw [if_neg (by rw [i_lt]; exact hx), if_neg (by rw [i_le, show (8 : Int32).toInt = 8 from by decide]; omega)]; rfl
    have x2 : F_X12_type ms a1 a2 = some (nM 1, mIs ms 0 0) := by
      unfold F_X12_type
      have e : F_X12_in a2 1 8 = _ := in_rng (a := 1) (b := 8) (by omega) (by omega) a2
      simp only [nm_at, e, Option.bind_some, if10]
      rw [if_neg c]; rfl
    exact ⟨nM 1, nM 1, _, _, by unfold X_type; rw [x1]; rfl, by unfold M_type; rw [x2]; rfl, rfl, IV.f0 h (fr0 ms)⟩
/-! rate -/
theorem asLine_t (o : S11) (t7 : S7) {tp : S4} {i : Nat} {A : Int32} (hi : i < 8) (e2 : s4_things tp i = A) : F_X11_asLine o t7 tp (nI i) = some (A, u11_traced o (s11_traced o + 1)) := by
  unfold F_X11_asLine
  rw [nm_at, nm_at, thingAt_t, Option.bind_some, atvN (by omega) (by omega), e2]
theorem asOpening_t (o : S11) (t7 : S7) {tp : S4} {t10 : S10} {i w : Nat} {A D : Int32} (hi : i < 8) (hw : w < 16) (e1 : s4_words tp i = nI w) (e2 : s4_things tp i = A) (b4 : s10_syllables t10 w = D) : F_X11_asOpening o t7 tp t10 (nI i) = some (A + D, u11_traced o (s11_traced o + 11)) := by
  unfold F_X11_asOpening
  have tr2 : ∀ (q : S11) (a b : Int64), u11_traced (u11_traced q a) b = u11_traced q b := fun _ _ _ => rfl
  have tr3 : ∀ (q : S11) (a : Int64), s11_traced (u11_traced q a) = a := fun _ _ => rfl
  rw [nm_at, nm_at, asLine_t _ t7 hi e2, Option.bind_some, wordAt_t, Option.bind_some, atvN (by omega) (by omega), e1, syll_t, Option.bind_some, atvN (by omega) (by omega), b4, tr2, tr3, Int64.add_assoc, show (10 : Int64) + 1 = 11 from by decide]
theorem asRhymed_t (o : S11) (t7 : S7) {tp : S4} {i : Nat} {A B : Int32} (hi : i < 8) (e2 : s4_things tp i = A) (e3 : s4_befores tp i = B) : F_X11_asRhymed o t7 tp (nI i) = some (A + B, u11_traced o (s11_traced o + 101)) := by
  unfold F_X11_asRhymed
  have tr2 : ∀ (q : S11) (a b : Int64), u11_traced (u11_traced q a) b = u11_traced q b := fun _ _ _ => rfl
  have tr3 : ∀ (q : S11) (a : Int64), s11_traced (u11_traced q a) = a := fun _ _ => rfl
  rw [nm_at, nm_at, asLine_t _ t7 hi e2, Option.bind_some, beforeAt_t, Option.bind_some, atvN (by omega) (by omega), e3, tr2, tr3, Int64.add_assoc, show (100 : Int64) + 1 = 101 from by decide]
theorem asAnchor_t (o : S11) (t7 : S7) {tp : S4} {i : Nat} {A B : Int32} (hi : i < 8) (e2 : s4_things tp i = A) (e3 : s4_befores tp i = B) : F_X11_asAnchor o t7 tp (nI i) = some (2 * (A + B), u11_traced o (s11_traced o + 1101)) := by
  unfold F_X11_asAnchor
  have tr2 : ∀ (q : S11) (a b : Int64), u11_traced (u11_traced q a) b = u11_traced q b := fun _ _ _ => rfl
  have tr3 : ∀ (q : S11) (a : Int64), s11_traced (u11_traced q a) = a := fun _ _ => rfl
  rw [nm_at, nm_at, asRhymed_t _ t7 hi e2 e3, Option.bind_some, tr2, tr3, Int64.add_assoc, show (1000 : Int64) + 101 = 1101 from by decide]
theorem asKey_t (o : S11) (t7 : S7) {tp : S4} {t10 : S10} {i w : Nat} {A D : Int32} (hi : i < 8) (hw : w < 16) (e1 : s4_words tp i = nI w) (e2 : s4_things tp i = A) (b4 : s10_syllables t10 w = D) : F_X11_asKey o t7 tp t10 (nI i) = some (A + D + nI i, u11_traced o (s11_traced o + 10011)) := by
  unfold F_X11_asKey
  have tr2 : ∀ (q : S11) (a b : Int64), u11_traced (u11_traced q a) b = u11_traced q b := fun _ _ _ => rfl
  have tr3 : ∀ (q : S11) (a : Int64), s11_traced (u11_traced q a) = a := fun _ _ => rfl
  rw [nm_at, nm_at, asOpening_t _ t7 hi hw e1 e2 b4, Option.bind_some, tr2, tr3, Int64.add_assoc, show (10000 : Int64) + 11 = 10011 from by decide]
theorem asFallen_t (o : S11) (t7 : S7) {tp : S4} {t10 : S10} {i w : Nat} {A C : Int32} (hi : i < 8) (hw : w < 16) (e1 : s4_words tp i = nI w) (e2 : s4_things tp i = A) (b3 : s10_meanings t10 w = C) : F_X11_asFallen o t7 tp t10 (nI i) = some (A - C, u11_traced o (s11_traced o + 100001)) := by
  unfold F_X11_asFallen
  have tr2 : ∀ (q : S11) (a b : Int64), u11_traced (u11_traced q a) b = u11_traced q b := fun _ _ _ => rfl
  have tr3 : ∀ (q : S11) (a : Int64), s11_traced (u11_traced q a) = a := fun _ _ => rfl
  rw [nm_at, nm_at, asLine_t _ t7 hi e2, Option.bind_some, wordAt_t, Option.bind_some, atvN (by omega) (by omega), e1, meaning_t, Option.bind_some, atvN (by omega) (by omega), b3, tr2, tr3, Int64.add_assoc, show (100000 : Int64) + 1 = 100001 from by decide]
theorem rateX_0 {o : S11} {t7 : S7} {tp : S4} {t10 : S10} {P i w : Nat} {A B C D : Int32} (hs : s4_size tp = nI P) (hP8 : P ≤ 8) (hi : i < P) (hw : w < 16) (e1 : s4_words tp i = nI w) (e2 : s4_things tp i = A) (e3 : s4_befores tp i = B) (b3 : s10_meanings t10 w = C) (b4 : s10_syllables t10 w = D) : F_X11_rate o t7 tp t10 (nI 0) (nI i) = some (A, u11_traced o (s11_traced o + 1)) := by
  have c2 : 0 ≤ (nI i).toInt ∧ (nI i).toInt < P := by rw [nI_toInt (by omega)]; omega
  unfold F_X11_rate
  rw [has_t tp (by omega) hs, Option.bind_some, if_pos c2, if_neg (show ¬ (1 : Int32) = 0 from by decide), if_pos (show nI 0 = (0 : Int32) from rfl), asLine_t o t7 (by omega) e2, Option.bind_some]
theorem rateX_1 {o : S11} {t7 : S7} {tp : S4} {t10 : S10} {P i w : Nat} {A B C D : Int32} (hs : s4_size tp = nI P) (hP8 : P ≤ 8) (hi : i < P) (hw : w < 16) (e1 : s4_words tp i = nI w) (e2 : s4_things tp i = A) (e3 : s4_befores tp i = B) (b3 : s10_meanings t10 w = C) (b4 : s10_syllables t10 w = D) : F_X11_rate o t7 tp t10 (nI 1) (nI i) = some (A + D, u11_traced o (s11_traced o + 11)) := by
  have c2 : 0 ≤ (nI i).toInt ∧ (nI i).toInt < P := by rw [nI_toInt (by omega)]; omega
  unfold F_X11_rate
  rw [has_t tp (by omega) hs, Option.bind_some, if_pos c2, if_neg (show ¬ (1 : Int32) = 0 from by decide), if_neg (show ¬ nI 1 = (0 : Int32) from by decide), if_pos (show nI 1 = (1 : Int32) from rfl), asOpening_t o t7 (by omega) hw e1 e2 b4, Option.bind_some]
theorem rateX_2 {o : S11} {t7 : S7} {tp : S4} {t10 : S10} {P i w : Nat} {A B C D : Int32} (hs : s4_size tp = nI P) (hP8 : P ≤ 8) (hi : i < P) (hw : w < 16) (e1 : s4_words tp i = nI w) (e2 : s4_things tp i = A) (e3 : s4_befores tp i = B) (b3 : s10_meanings t10 w = C) (b4 : s10_syllables t10 w = D) : F_X11_rate o t7 tp t10 (nI 2) (nI i) = some (A + B, u11_traced o (s11_traced o + 101)) := by
  have c2 : 0 ≤ (nI i).toInt ∧ (nI i).toInt < P := by rw [nI_toInt (by omega)]; omega
  unfold F_X11_rate
  rw [has_t tp (by omega) hs, Option.bind_some, if_pos c2, if_neg (show ¬ (1 : Int32) = 0 from by decide), if_neg (show ¬ nI 2 = (0 : Int32) from by decide), if_neg (show ¬ nI 2 = (1 : Int32) from by decide), if_pos (show nI 2 = (2 : Int32) from rfl), asRhymed_t o t7 (by omega) e2 e3, Option.bind_some]
theorem rateX_3 {o : S11} {t7 : S7} {tp : S4} {t10 : S10} {P i w : Nat} {A B C D : Int32} (hs : s4_size tp = nI P) (hP8 : P ≤ 8) (hi : i < P) (hw : w < 16) (e1 : s4_words tp i = nI w) (e2 : s4_things tp i = A) (e3 : s4_befores tp i = B) (b3 : s10_meanings t10 w = C) (b4 : s10_syllables t10 w = D) : F_X11_rate o t7 tp t10 (nI 3) (nI i) = some (2 * (A + B), u11_traced o (s11_traced o + 1101)) := by
  have c2 : 0 ≤ (nI i).toInt ∧ (nI i).toInt < P := by rw [nI_toInt (by omega)]; omega
  unfold F_X11_rate
  rw [has_t tp (by omega) hs, Option.bind_some, if_pos c2, if_neg (show ¬ (1 : Int32) = 0 from by decide), if_neg (show ¬ nI 3 = (0 : Int32) from by decide), if_neg (show ¬ nI 3 = (1 : Int32) from by decide), if_neg (show ¬ nI 3 = (2 : Int32) from by decide), if_pos (show nI 3 = (3 : Int32) from rfl), asAnchor_t o t7 (by omega) e2 e3, Option.bind_some]
theorem rateX_4 {o : S11} {t7 : S7} {tp : S4} {t10 : S10} {P i w : Nat} {A B C D : Int32} (hs : s4_size tp = nI P) (hP8 : P ≤ 8) (hi : i < P) (hw : w < 16) (e1 : s4_words tp i = nI w) (e2 : s4_things tp i = A) (e3 : s4_befores tp i = B) (b3 : s10_meanings t10 w = C) (b4 : s10_syllables t10 w = D) : F_X11_rate o t7 tp t10 (nI 4) (nI i) = some (A + D + nI i, u11_traced o (s11_traced o + 10011)) := by
  have c2 : 0 ≤ (nI i).toInt ∧ (nI i).toInt < P := by rw [nI_toInt (by omega)]; omega
  unfold F_X11_rate
  rw [has_t tp (by omega) hs, Option.bind_some, if_pos c2, if_neg (show ¬ (1 : Int32) = 0 from by decide), if_neg (show ¬ nI 4 = (0 : Int32) from by decide), if_neg (show ¬ nI 4 = (1 : Int32) from by decide), if_neg (show ¬ nI 4 = (2 : Int32) from by decide), if_neg (show ¬ nI 4 = (3 : Int32) from by decide), if_pos (show nI 4 = (4 : Int32) from rfl), asKey_t o t7 (by omega) hw e1 e2 b4, Option.bind_some]
theorem rateX_5 {o : S11} {t7 : S7} {tp : S4} {t10 : S10} {P i w : Nat} {A B C D : Int32} (hs : s4_size tp = nI P) (hP8 : P ≤ 8) (hi : i < P) (hw : w < 16) (e1 : s4_words tp i = nI w) (e2 : s4_things tp i = A) (e3 : s4_befores tp i = B) (b3 : s10_meanings t10 w = C) (b4 : s10_syllables t10 w = D) : F_X11_rate o t7 tp t10 (nI 5) (nI i) = some (A - C, u11_traced o (s11_traced o + 100001)) := by
  have c2 : 0 ≤ (nI i).toInt ∧ (nI i).toInt < P := by rw [nI_toInt (by omega)]; omega
  unfold F_X11_rate
  rw [has_t tp (by omega) hs, Option.bind_some, if_pos c2, if_neg (show ¬ (1 : Int32) = 0 from by decide), if_neg (show ¬ nI 5 = (0 : Int32) from by decide), if_neg (show ¬ nI 5 = (1 : Int32) from by decide), if_neg (show ¬ nI 5 = (2 : Int32) from by decide), if_neg (show ¬ nI 5 = (3 : Int32) from by decide), if_neg (show ¬ nI 5 = (4 : Int32) from by decide), if_pos (show nI 5 = (5 : Int32) from rfl), asFallen_t o t7 (by omega) hw e1 e2 b3, Option.bind_some]
theorem ix_r (a i : Nat) : nI a + (3 : Int32) * nI i = nI (a + 3 * i) := by
  rw [show (3 : Int32) * nI i = nI (3 * i) from nI_mul 3 i, nI_add]
theorem ix_w (a w : Nat) : (4 : Int32) * nI w + nI a = nI (4 * w + a) := by
  rw [show (4 : Int32) * nI w = nI (4 * w) from nI_mul 4 w, nI_add]
theorem rateM_0 {ms : SM} {P i w : Nat} (hP : mA ms 21 0 = nI P) (hP8 : P ≤ 8) (hi : i < P) (hw : w < 16) (ew : mA ms 21 (1 + 3 * i) = nI w) : F_X12_rate ms (nI 0) (nI i) = some (mA ms 21 (2 + 3 * i), mTs (mIs ms 0 (nI 0)) (mT ms + 1)) := by
  have c2 : 0 ≤ (nI i).toInt ∧ (nI i).toInt < P := by rw [nI_toInt (by omega)]; omega
  unfold F_X12_rate
  rw [nm_at, show F_X12_in (nI 0) 0 5 = some 1 from by decide +kernel, Option.bind_some, if_neg (show ¬ (1 : Int32) = 0 from by decide), isLine_t (s := mIs ms 0 0) hP (by omega), Option.bind_some, if_pos c2, if_neg (show ¬ (1 : Int32) = 0 from by decide), show mA (mIs ms 0 0) 21 = mA ms 21 from rfl, show mA (mIs ms 0 0) 9 = mA ms 9 from rfl, show (1 : Int32) + 3 * nI i = nI (1 + 3 * i) from ix_r 1 i, agN (by omega) (by omega), Option.bind_some, ew, nm_at, show (2 : Int32) + 3 * nI i = nI (2 + 3 * i) from ix_r 2 i, agN (by omega) (by omega), Option.bind_some, nm_at, show (4 : Int32) * nI w + 3 = nI (4 * w + 3) from ix_w 3 w, agN (by omega) (by omega), Option.bind_some, nm_at, show (3 : Int32) + 3 * nI i = nI (3 + 3 * i) from ix_r 3 i, agN (by omega) (by omega), Option.bind_some, nm_at, if_pos (show nI 0 = (0 : Int32) from rfl)]
  unfold F_X12_rate_b138
  rw [nm_at, if_pos (show nI 0 = (0 : Int32) from rfl)]
  rfl
theorem rateM_1 {ms : SM} {P i w : Nat} (hP : mA ms 21 0 = nI P) (hP8 : P ≤ 8) (hi : i < P) (hw : w < 16) (ew : mA ms 21 (1 + 3 * i) = nI w) : F_X12_rate ms (nI 1) (nI i) = some (mA ms 21 (2 + 3 * i) + mA ms 9 (4 * w + 3), mTs (mIs ms 0 (nI 0)) (mT ms + 11)) := by
  have c2 : 0 ≤ (nI i).toInt ∧ (nI i).toInt < P := by rw [nI_toInt (by omega)]; omega
  unfold F_X12_rate
  rw [nm_at, show F_X12_in (nI 1) 0 5 = some 1 from by decide +kernel, Option.bind_some, if_neg (show ¬ (1 : Int32) = 0 from by decide), isLine_t (s := mIs ms 0 0) hP (by omega), Option.bind_some, if_pos c2, if_neg (show ¬ (1 : Int32) = 0 from by decide), show mA (mIs ms 0 0) 21 = mA ms 21 from rfl, show mA (mIs ms 0 0) 9 = mA ms 9 from rfl, show (1 : Int32) + 3 * nI i = nI (1 + 3 * i) from ix_r 1 i, agN (by omega) (by omega), Option.bind_some, ew, nm_at, show (2 : Int32) + 3 * nI i = nI (2 + 3 * i) from ix_r 2 i, agN (by omega) (by omega), Option.bind_some, nm_at, show (4 : Int32) * nI w + 3 = nI (4 * w + 3) from ix_w 3 w, agN (by omega) (by omega), Option.bind_some, nm_at, show (3 : Int32) + 3 * nI i = nI (3 + 3 * i) from ix_r 3 i, agN (by omega) (by omega), Option.bind_some, nm_at, if_neg (show ¬ nI 1 = (0 : Int32) from by decide), if_pos (show nI 1 = (1 : Int32) from rfl)]
  unfold F_X12_rate_b138
  rw [nm_at, if_neg (show ¬ nI 1 = (0 : Int32) from by decide), if_pos (show nI 1 = (1 : Int32) from rfl)]
  rfl
theorem rateM_2 {ms : SM} {P i w : Nat} (hP : mA ms 21 0 = nI P) (hP8 : P ≤ 8) (hi : i < P) (hw : w < 16) (ew : mA ms 21 (1 + 3 * i) = nI w) : F_X12_rate ms (nI 2) (nI i) = some (mA ms 21 (2 + 3 * i) + mA ms 21 (3 + 3 * i), mTs (mIs ms 0 (nI 0)) (mT ms + 101)) := by
  have c2 : 0 ≤ (nI i).toInt ∧ (nI i).toInt < P := by rw [nI_toInt (by omega)]; omega
  unfold F_X12_rate
  rw [nm_at, show F_X12_in (nI 2) 0 5 = some 1 from by decide +kernel, Option.bind_some, if_neg (show ¬ (1 : Int32) = 0 from by decide), isLine_t (s := mIs ms 0 0) hP (by omega), Option.bind_some, if_pos c2, if_neg (show ¬ (1 : Int32) = 0 from by decide), show mA (mIs ms 0 0) 21 = mA ms 21 from rfl, show mA (mIs ms 0 0) 9 = mA ms 9 from rfl, show (1 : Int32) + 3 * nI i = nI (1 + 3 * i) from ix_r 1 i, agN (by omega) (by omega), Option.bind_some, ew, nm_at, show (2 : Int32) + 3 * nI i = nI (2 + 3 * i) from ix_r 2 i, agN (by omega) (by omega), Option.bind_some, nm_at, show (4 : Int32) * nI w + 3 = nI (4 * w + 3) from ix_w 3 w, agN (by omega) (by omega), Option.bind_some, nm_at, show (3 : Int32) + 3 * nI i = nI (3 + 3 * i) from ix_r 3 i, agN (by omega) (by omega), Option.bind_some, nm_at, if_neg (show ¬ nI 2 = (0 : Int32) from by decide), if_neg (show ¬ nI 2 = (1 : Int32) from by decide), if_pos (show nI 2 = (2 : Int32) from rfl)]
  unfold F_X12_rate_b138
  rw [nm_at, if_neg (show ¬ nI 2 = (0 : Int32) from by decide), if_neg (show ¬ nI 2 = (1 : Int32) from by decide), if_pos (show nI 2 = (2 : Int32) from rfl)]
  rfl
theorem rateM_3 {ms : SM} {P i w : Nat} (hP : mA ms 21 0 = nI P) (hP8 : P ≤ 8) (hi : i < P) (hw : w < 16) (ew : mA ms 21 (1 + 3 * i) = nI w) : F_X12_rate ms (nI 3) (nI i) = some (2 * (mA ms 21 (2 + 3 * i) + mA ms 21 (3 + 3 * i)), mTs (mIs ms 0 (nI 0)) (mT ms + 1101)) := by
  have c2 : 0 ≤ (nI i).toInt ∧ (nI i).toInt < P := by rw [nI_toInt (by omega)]; omega
  unfold F_X12_rate
  rw [nm_at, show F_X12_in (nI 3) 0 5 = some 1 from by decide +kernel, Option.bind_some, if_neg (show ¬ (1 : Int32) = 0 from by decide), isLine_t (s := mIs ms 0 0) hP (by omega), Option.bind_some, if_pos c2, if_neg (show ¬ (1 : Int32) = 0 from by decide), show mA (mIs ms 0 0) 21 = mA ms 21 from rfl, show mA (mIs ms 0 0) 9 = mA ms 9 from rfl, show (1 : Int32) + 3 * nI i = nI (1 + 3 * i) from ix_r 1 i, agN (by omega) (by omega), Option.bind_some, ew, nm_at, show (2 : Int32) + 3 * nI i = nI (2 + 3 * i) from ix_r 2 i, agN (by omega) (by omega), Option.bind_some, nm_at, show (4 : Int32) * nI w + 3 = nI (4 * w + 3) from ix_w 3 w, agN (by omega) (by omega), Option.bind_some, nm_at, show (3 : Int32) + 3 * nI i = nI (3 + 3 * i) from ix_r 3 i, agN (by omega) (by omega), Option.bind_some, nm_at, if_neg (show ¬ nI 3 = (0 : Int32) from by decide), if_neg (show ¬ nI 3 = (1 : Int32) from by decide), if_neg (show ¬ nI 3 = (2 : Int32) from by decide), if_pos (show nI 3 = (3 : Int32) from rfl)]
  unfold F_X12_rate_b138
  rw [nm_at, if_neg (show ¬ nI 3 = (0 : Int32) from by decide), if_neg (show ¬ nI 3 = (1 : Int32) from by decide), if_neg (show ¬ nI 3 = (2 : Int32) from by decide), if_pos (show nI 3 = (3 : Int32) from rfl)]
  rfl
theorem rateM_4 {ms : SM} {P i w : Nat} (hP : mA ms 21 0 = nI P) (hP8 : P ≤ 8) (hi : i < P) (hw : w < 16) (ew : mA ms 21 (1 + 3 * i) = nI w) : F_X12_rate ms (nI 4) (nI i) = some (mA ms 21 (2 + 3 * i) + mA ms 9 (4 * w + 3) + nI i, mTs (mIs ms 0 (nI 0)) (mT ms + 10011)) := by
  have c2 : 0 ≤ (nI i).toInt ∧ (nI i).toInt < P := by rw [nI_toInt (by omega)]; omega
  unfold F_X12_rate
  rw [nm_at, show F_X12_in (nI 4) 0 5 = some 1 from by decide +kernel, Option.bind_some, if_neg (show ¬ (1 : Int32) = 0 from by decide), isLine_t (s := mIs ms 0 0) hP (by omega), Option.bind_some, if_pos c2, if_neg (show ¬ (1 : Int32) = 0 from by decide), show mA (mIs ms 0 0) 21 = mA ms 21 from rfl, show mA (mIs ms 0 0) 9 = mA ms 9 from rfl, show (1 : Int32) + 3 * nI i = nI (1 + 3 * i) from ix_r 1 i, agN (by omega) (by omega), Option.bind_some, ew, nm_at, show (2 : Int32) + 3 * nI i = nI (2 + 3 * i) from ix_r 2 i, agN (by omega) (by omega), Option.bind_some, nm_at, show (4 : Int32) * nI w + 3 = nI (4 * w + 3) from ix_w 3 w, agN (by omega) (by omega), Option.bind_some, nm_at, show (3 : Int32) + 3 * nI i = nI (3 + 3 * i) from ix_r 3 i, agN (by omega) (by omega), Option.bind_some, nm_at, if_neg (show ¬ nI 4 = (0 : Int32) from by decide), if_neg (show ¬ nI 4 = (1 : Int32) from by decide), if_neg (show ¬ nI 4 = (2 : Int32) from by decide), if_neg (show ¬ nI 4 = (3 : Int32) from by decide), if_pos (show nI 4 = (4 : Int32) from rfl)]
  unfold F_X12_rate_b138
  rw [nm_at, if_neg (show ¬ nI 4 = (0 : Int32) from by decide), if_neg (show ¬ nI 4 = (1 : Int32) from by decide), if_neg (show ¬ nI 4 = (2 : Int32) from by decide), if_neg (show ¬ nI 4 = (3 : Int32) from by decide), if_pos (show nI 4 = (4 : Int32) from rfl)]
  rfl
theorem rateM_5 {ms : SM} {P i w : Nat} (hP : mA ms 21 0 = nI P) (hP8 : P ≤ 8) (hi : i < P) (hw : w < 16) (ew : mA ms 21 (1 + 3 * i) = nI w) : F_X12_rate ms (nI 5) (nI i) = some (mA ms 21 (2 + 3 * i) - mA ms 9 (4 * w + 2), mTs (mIs ms 0 (nI 0)) (mT ms + 100001)) := by
  have c2 : 0 ≤ (nI i).toInt ∧ (nI i).toInt < P := by rw [nI_toInt (by omega)]; omega
  unfold F_X12_rate
  rw [nm_at, show F_X12_in (nI 5) 0 5 = some 1 from by decide +kernel, Option.bind_some, if_neg (show ¬ (1 : Int32) = 0 from by decide), isLine_t (s := mIs ms 0 0) hP (by omega), Option.bind_some, if_pos c2, if_neg (show ¬ (1 : Int32) = 0 from by decide), show mA (mIs ms 0 0) 21 = mA ms 21 from rfl, show mA (mIs ms 0 0) 9 = mA ms 9 from rfl, show (1 : Int32) + 3 * nI i = nI (1 + 3 * i) from ix_r 1 i, agN (by omega) (by omega), Option.bind_some, ew, nm_at, show (2 : Int32) + 3 * nI i = nI (2 + 3 * i) from ix_r 2 i, agN (by omega) (by omega), Option.bind_some, nm_at, show (4 : Int32) * nI w + 3 = nI (4 * w + 3) from ix_w 3 w, agN (by omega) (by omega), Option.bind_some, nm_at, show (3 : Int32) + 3 * nI i = nI (3 + 3 * i) from ix_r 3 i, agN (by omega) (by omega), Option.bind_some, nm_at, if_neg (show ¬ nI 5 = (0 : Int32) from by decide), if_neg (show ¬ nI 5 = (1 : Int32) from by decide), if_neg (show ¬ nI 5 = (2 : Int32) from by decide), if_neg (show ¬ nI 5 = (3 : Int32) from by decide), if_neg (show ¬ nI 5 = (4 : Int32) from by decide)]
  unfold F_X12_rate_b138
  rw [nm_at, if_neg (show ¬ nI 5 = (0 : Int32) from by decide), if_neg (show ¬ nI 5 = (1 : Int32) from by decide), if_neg (show ¬ nI 5 = (2 : Int32) from by decide), if_neg (show ¬ nI 5 = (3 : Int32) from by decide), if_neg (show ¬ nI 5 = (4 : Int32) from by decide), show (4 : Int32) * nI w + 2 = nI (4 * w + 2) from ix_w 2 w, agN (by omega) (by omega), Option.bind_some]
  rfl
theorem op_rate {st : SX} {ms : SM} (h : Inv st ms) (a1 a2 : Int32) : ∃ (r r2 : Int32) (st2 : SX) (ms2 : SM), X_rate st a1 a2 = some (r, st2) ∧ M_rate ms a1 a2 = some (r2, ms2) ∧ r = r2 ∧ Inv st2 ms2 := by
  obtain ⟨o, tx, ve, tr, me, gu, ch, row, i1, i2, t7, t10, t1, tp, ts, p7, p10, p1, pp, ps⟩ := st
  obtain ⟨W, F, P, S, T, ⟨hW, hF, hP, hS, hT⟩, hTX, hWR, hFR, hMR, hLP, hLS, hI1, hI2, hMo, hTr⟩ := (show IV o tx tr row i1 i2 t7 t10 t1 tp ts pp ps ms from h)
  have hP8 := hLP.1
  have hW16 := hWR.1
  have hF2 := hFR.1
  have hS6 := hLS.1
  have hs := hLP.2.2.1.1
  have no : F_X11_rate o t7 tp t10 a1 a2 = some (-1000000, o) → F_X12_rate ms a1 a2 = some (-1000000, mIs ms 0 0) → ∃ (r r2 : Int32) (st2 : SX) (ms2 : SM), X_rate (o, tx, ve, tr, me, gu, ch, row, i1, i2, t7, t10, t1, tp, ts, p7, p10, p1, pp, ps) a1 a2 = some (r, st2) ∧ M_rate ms a1 a2 = some (r2, ms2) ∧ r = r2 ∧ Inv st2 ms2 := by
    intro x1 x2
    exact ⟨-1000000, -1000000, (o, tx, ve, tr, me, gu, ch, row, i1, i2, t7, t10, t1, tp, ts, p7, p10, p1, pp, ps), mIs ms 0 0, by unfold X_rate; rw [x1]; rfl, by unfold M_rate; rw [x2]; rfl, rfl, IV.f0 h (fr0 ms)⟩
  by_cases c2 : 0 ≤ a2.toInt ∧ a2.toInt < P
  · obtain ⟨i, hi, rfl⟩ := Lb.of c2
    obtain ⟨e1, e2, e3⟩ := hLP.2.2.1.at hi
    obtain ⟨⟨w, hw, ew⟩, -, -⟩ := hLP.2.2.2 i hi
    simp only [] at e1 e2 e3 ew
    rw [ew] at e1
    rw [show 1 + (3 * i + 1) = 2 + 3 * i from by omega] at e2
    rw [show 1 + (3 * i + 2) = 3 + 3 * i from by omega] at e3
    obtain ⟨⟨-, -, b3, b4⟩, -⟩ := hWR.2.2 w hw
    by_cases c1 : (0 : Nat) ≤ a1.toInt ∧ a1.toInt ≤ (5 : Nat)
    · obtain ⟨k, hk, rfl⟩ := Lb.of (n := 6) (x := a1) (by omega)
      have rest : ∀ {o' : S11} {ms' : SM}, s11_kept o' = s11_kept o → s11_traced o' = mT ms' → (∀ k, k ≠ 0 → mI ms' k = mI ms k) → (∀ k, mA ms' k = mA ms k) → IV o' tx tr row i1 i2 t7 t10 t1 tp ts pp ps ms' := by
        intro o' ms' h1 h2 h3 h4
        refine ⟨W, F, P, S, T, ⟨?_, ?_, ?_, ?_, ?_⟩, ?_, ?_, ?_, ?_, ?_, ?_, ?_, ?_, hMo, h2⟩
        · rw [h3 13 (by decide)]; exact hW
        · rw [h3 14 (by decide)]; exact hF
        · rw [h4]; exact hP
        · rw [h3 15 (by decide)]; exact hS
        · rw [h3 3 (by decide)]; exact hT
        · rw [h4]; exact hTX
        · rw [h4]; exact hWR
        · rw [h4]; exact hFR
        · rw [h4]; exact hMR
        · rw [h4]; exact hLP
        · rw [h4]; exact hLS
        · exact hI1.rest (by rw [h1]) (by rw [h4]) (fun j _ => by rw [h4])
        · exact hI2.rest (by rw [h1]) (by rw [h4]) (fun j _ => by rw [h4])
      have fin : ∀ (v : Int32) (t : Int64), F_X11_rate o t7 tp t10 (nI k) (nI i) = some (v, u11_traced o (s11_traced o + t)) → F_X12_rate ms (nI k) (nI i) = some (v, mTs (mIs ms 0 (nI 0)) (mT ms + t)) → ∃ (r r2 : Int32) (st2 : SX) (ms2 : SM), X_rate (o, tx, ve, tr, me, gu, ch, row, i1, i2, t7, t10, t1, tp, ts, p7, p10, p1, pp, ps) (nI k) (nI i) = some (r, st2) ∧ M_rate ms (nI k) (nI i) = some (r2, ms2) ∧ r = r2 ∧ Inv st2 ms2 := by
        intro v t x1 x2
        refine ⟨v, v, (u11_traced o (s11_traced o + t), tx, ve, tr, me, gu, ch, row, i1, i2, t7, t10, t1, tp, ts, p7, p10, p1, pp, ps), mTs (mIs ms 0 (nI 0)) (mT ms + t), ?_, ?_, rfl, ?_⟩
        · unfold X_rate; rw [x1]; rfl
        · unfold M_rate; rw [x2]; rfl
        · exact rest rfl (by show s11_traced o + t = mT ms + t; rw [hTr]) (fun j hj => by show (if j = 0 then nI 0 else mI ms j) = _; rw [if_neg hj]) (fun j => rfl)
      have hx : k = 0 ∨ k = 1 ∨ k = 2 ∨ k = 3 ∨ k = 4 ∨ k = 5 := by omega
      have hw16 : w < 16 := by omega
      rcases hx with rfl | rfl | rfl | rfl | rfl | rfl
      · exact fin _ _ (rateX_0 hs hP8 hi hw16 e1 e2 e3 b3 b4) (rateM_0 hP hP8 hi hw16 ew)
      · exact fin _ _ (rateX_1 hs hP8 hi hw16 e1 e2 e3 b3 b4) (rateM_1 hP hP8 hi hw16 ew)
      · exact fin _ _ (rateX_2 hs hP8 hi hw16 e1 e2 e3 b3 b4) (rateM_2 hP hP8 hi hw16 ew)
      · exact fin _ _ (rateX_3 hs hP8 hi hw16 e1 e2 e3 b3 b4) (rateM_3 hP hP8 hi hw16 ew)
      · exact fin _ _ (rateX_4 hs hP8 hi hw16 e1 e2 e3 b3 b4) (rateM_4 hP hP8 hi hw16 ew)
      · exact fin _ _ (rateX_5 hs hP8 hi hw16 e1 e2 e3 b3 b4) (rateM_5 hP hP8 hi hw16 ew)
    · have hne : ∀ k, k < 6 → ¬ a1 = nI k := fun k hk e => c1 (by rw [e, nI_toInt (by omega)]; omega)
      refine no ?_ ?_
      · have hne0 : ¬ a1 = 0 := hne 0 (by omega)
        have hne1 : ¬ a1 = 1 := hne 1 (by omega)
        have hne2 : ¬ a1 = 2 := hne 2 (by omega)
        have hne3 : ¬ a1 = 3 := hne 3 (by omega)
        have hne4 : ¬ a1 = 4 := hne 4 (by omega)
        have hne5 : ¬ a1 = 5 := hne 5 (by omega)
        unfold F_X11_rate
        rw [has_t tp (by omega) hs, Option.bind_some, if_pos c2, if_neg (show ¬ (1 : Int32) = 0 from by decide), if_neg hne0, if_neg hne1, if_neg hne2, if_neg hne3, if_neg hne4, if_neg hne5]
      · unfold F_X12_rate F_X12_rate_b22
        rw [nm_at, show F_X12_in a1 0 5 = _ from in_rng (a := 0) (b := 5) (by omega) (by omega) a1, if_neg c1, Option.bind_some, if_pos rfl]
  · refine no ?_ ?_
    · unfold F_X11_rate
      rw [has_t tp (by omega) hs, Option.bind_some, if_neg c2, if_pos rfl]
    · unfold F_X12_rate F_X12_rate_b22
      rw [nm_at, show F_X12_in a1 0 5 = _ from in_rng (a := 0) (b := 5) (by omega) (by omega) a1, Option.bind_some]
      by_cases c1 : ((0 : Nat) : Int) ≤ a1.toInt ∧ a1.toInt ≤ ((5 : Nat) : Int)
      · rw [if_pos c1, if_neg (show ¬ (1 : Int32) = 0 from by decide), isLine_t (s := mIs ms 0 0) hP (by omega), Option.bind_some, if_neg c2, if_pos rfl]
      · rw [if_neg c1, if_pos rfl]
