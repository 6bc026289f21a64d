/-! ===== judged: from the rows ===== -/
def okv (rm rw : Nat → Int32) (l w : Nat) (b : Int32) : Bool := decide (rm l = nI 0) || decide (b + rw (4 * w + 3) = rm l)
def rhv (sd : Nat → Int32) (a b : Nat) : Bool := decide (a ≠ b) && decide (sd a = sd b)
def vL (rf : Nat → Int32) (f : Nat) : Nat → Nat := fun i => cn (letv rf f i)
def vO (rf rm rw : Nat → Int32) (f : Nat) (r : Nat → Int32) : Nat → Bool := fun i => okv rm rw (vL rf f i) (cn (r (3 * i))) (r (3 * i + 2))
def vR (sd : Nat → Int32) (r : Nat → Int32) : Nat → Nat → Bool := fun a i => rhv sd (cn (r (3 * a))) (cn (r (3 * i)))
theorem vL_lt {s : S1} {F : Nat} {r : Nat → Int32} (h : FR s F r) {f : Nat} (hf : f < F) (i : Nat) : vL r f i < 8 ∧ letv r f i = nI (vL r f i) := by
  obtain ⟨e1, e2⟩ := Lb_cn (letv_lb h hf i) (by omega)
  exact ⟨e2, e1⟩
theorem fits_ok {t7 : S7} {t10 : S10} {W : Nat} {rm rw : Nat → Int32} (hM : MR t7 rm) (hW : WR t10 W rw) {l w : Nat} (hl : l < 8) (hw : w < W) (b : Int32) : F_X7_fits t7 t10 (nI l) (nI w) b = some (if okv rm rw l w b = true then 1 else 0) := by
  obtain ⟨-, e⟩ := hM l hl
  obtain ⟨⟨-, -, -, e3⟩, -⟩ := hW.2.2 w hw
  have h16 := hW.1
  unfold F_X7_fits okv
  simp (disch := omega) only [metreOf_t, syll_t, e, e3, and_true, true_and, and_false, false_and, or_true, true_or, or_false, false_or, not_true_eq_false, not_false_eq_true, nm_at, Option.bind_some, if_true, if_false, ↓k_m1, ↓k_m2, ↓k_m3, ↓k_m5, ↓k_m9, ↓k_m10, ↓k_mno, k_0, k_1, k_2, k_3, k_4, k_5, k_6, k_7, k_8, k_9, k_10, k_11, k_12, k_13, k_14, k_15, k_16, k_17, k_18, k_19, k_20, k_21, k_22, k_23, k_24, k_25, k_26, k_27, k_28, k_29, k_30, k_31, k_32, k_36, k_48, k_50, k_57, k_58, k_59, k_64, k_97, k_99, k_100, k_101, k_102, k_104, k_105, k_107, k_108, k_109, k_110, k_111, k_114, k_115, k_116, k_119, k_122, k_128, k_255, k_500, k_1000, k_1023, k_10000, k_100000, nI_add, nI_mul, nI_sub, nI_sub0, nI_leI, nI_ltI, nI_eq, nM_lt, nM_le, nM_nlt, nM_nle, nM_ne, nM_ne', nM_eq, q_ii, q_ia, q_ij, q_it, q_aa, q_ai, q_aj, q_at, q_jj, q_ji, q_ja, q_jt, q_tt, q_ti, q_ta, q_tj, u_at, uL_at, Nat.zero_mul, Nat.mul_zero, Nat.one_mul, Nat.mul_one, Nat.zero_add, Nat.add_zero, nI_toInt, agN, asN, agLN, asLN, atvN, setvN, if_pos, if_neg]
  by_cases c : rm l = nI 0
  · simp [c]
  · by_cases d : rm l = b + rw (4 * w + 3)
    · simp [c, ← d]
    · have d2 : ¬ b + rw (4 * w + 3) = rm l := fun z => d z.symm
      simp [c, d, d2]
theorem isMetre_ok {t1 : S1} {F : Nat} {s : SM} (hF : FR t1 F (mA s 10)) {f i w : Nat} (hf : f < F) (hi : i < 9) (hw : w < 16) : F_X12_isMetre s (nI f) (nI i) (nI w) = some (if okv (mA s 11) (mA s 9) (vL (mA s 10) f i) w (mA s 24 (3 * i + 2)) = true then nI 1 else nI 0) := by
  obtain ⟨h1, h2⟩ := vL_lt hF hf i
  unfold F_X12_isMetre okv
  rw [letterOf_t hF hf (by omega), h2]
  simp (disch := omega) only [and_true, true_and, and_false, false_and, or_true, true_or, or_false, false_or, not_true_eq_false, not_false_eq_true, nm_at, Option.bind_some, if_true, if_false, ↓k_m1, ↓k_m2, ↓k_m3, ↓k_m5, ↓k_m9, ↓k_m10, ↓k_mno, k_0, k_1, k_2, k_3, k_4, k_5, k_6, k_7, k_8, k_9, k_10, k_11, k_12, k_13, k_14, k_15, k_16, k_17, k_18, k_19, k_20, k_21, k_22, k_23, k_24, k_25, k_26, k_27, k_28, k_29, k_30, k_31, k_32, k_36, k_48, k_50, k_57, k_58, k_59, k_64, k_97, k_99, k_100, k_101, k_102, k_104, k_105, k_107, k_108, k_109, k_110, k_111, k_114, k_115, k_116, k_119, k_122, k_128, k_255, k_500, k_1000, k_1023, k_10000, k_100000, nI_add, nI_mul, nI_sub, nI_sub0, nI_leI, nI_ltI, nI_eq, nM_lt, nM_le, nM_nlt, nM_nle, nM_ne, nM_ne', nM_eq, q_ii, q_ia, q_ij, q_it, q_aa, q_ai, q_aj, q_at, q_jj, q_ji, q_ja, q_jt, q_tt, q_ti, q_ta, q_tj, u_at, uL_at, Nat.zero_mul, Nat.mul_zero, Nat.one_mul, Nat.mul_one, Nat.zero_add, Nat.add_zero, nI_toInt, agN, asN, agLN, asLN, atvN, setvN, if_pos, if_neg]
  by_cases c : mA s 11 (vL (mA s 10) f i) = nI 0
  · simp [c]
  · by_cases d : mA s 24 (3 * i + 2) + mA s 9 (4 * w + 3) = mA s 11 (vL (mA s 10) f i)
    · simp [c, d]
    · simp [c, d]
theorem rhyme_ok {t10 : S10} {W d : Nat} {sd : Nat → Int32} (hd : d < 3) (hW : W ≤ 16) (hs : ∀ w, w < W → s10_sounds t10 (16 * d + w) = sd w) {a b : Nat} (ha : a < W) (hb : b < W) : F_X10_rhyme t10 (nI d) (nI a) (nI b) = some (if rhv sd a b = true then 1 else 0) := by
  rw [rhyme_t]
  have e1 := hs a ha
  have e2 := hs b hb
  rw [Nat.mul_comm] at e1 e2
  unfold rhv
  simp (disch := omega) only [e1, e2, and_true, true_and, and_false, false_and, or_true, true_or, or_false, false_or, not_true_eq_false, not_false_eq_true, nm_at, Option.bind_some, if_true, if_false, ↓k_m1, ↓k_m2, ↓k_m3, ↓k_m5, ↓k_m9, ↓k_m10, ↓k_mno, k_0, k_1, k_2, k_3, k_4, k_5, k_6, k_7, k_8, k_9, k_10, k_11, k_12, k_13, k_14, k_15, k_16, k_17, k_18, k_19, k_20, k_21, k_22, k_23, k_24, k_25, k_26, k_27, k_28, k_29, k_30, k_31, k_32, k_36, k_48, k_50, k_57, k_58, k_59, k_64, k_97, k_99, k_100, k_101, k_102, k_104, k_105, k_107, k_108, k_109, k_110, k_111, k_114, k_115, k_116, k_119, k_122, k_128, k_255, k_500, k_1000, k_1023, k_10000, k_100000, nI_add, nI_mul, nI_sub, nI_sub0, nI_leI, nI_ltI, nI_eq, nM_lt, nM_le, nM_nlt, nM_nle, nM_ne, nM_ne', nM_eq, q_ii, q_ia, q_ij, q_it, q_aa, q_ai, q_aj, q_at, q_jj, q_ji, q_ja, q_jt, q_tt, q_ti, q_ta, q_tj, u_at, uL_at, Nat.zero_mul, Nat.mul_zero, Nat.one_mul, Nat.mul_one, Nat.zero_add, Nat.add_zero, nI_toInt, agN, asN, agLN, asLN, atvN, setvN, if_pos, if_neg]
  by_cases c : a = b
  · simp [c]
  · by_cases e : sd a = sd b
    · simp [c, e]
    · simp [c, e]
theorem view_ok {t7 : S7} {t10 : S10} {t1 : S1} {p : S4} {n M W F f d : Nat} {rm rw rf r sd : Nat → Int32} (hM : MR t7 rm) (hW : WR t10 W rw) (hF : FR t1 F rf) (hf : f < F) (hp : LR p n M W r) (hM8 : M ≤ 8) (hd : d < 3) (hs : ∀ w, w < W → s10_sounds t10 (16 * d + w) = sd w) (v : S9) : An (F_X9_judge t7 p v t1 t10 (nI f) (nI d)) (VV (vL rf f) (vO rf rm rw f r) (vR sd r) n n) := by
  obtain ⟨h1, h2, h3, h4⟩ := hp
  have hword : ∀ i, i < n → s4_words p i = nI (cn (r (3 * i))) ∧ cn (r (3 * i)) < W := by
    intro i hi
    obtain ⟨e1, e2⟩ := Lb_cn (h4 i hi).1 (by have := hW.1; omega)
    exact ⟨(h3.at hi).1.trans e1, e2⟩
  refine judge_t (by omega) t7 p v t1 t10 (nI d) h3.1 ?_ ?_ ?_
  · intro i hi
    obtain ⟨e1, e2⟩ := vL_lt hF hf i
    exact ⟨(letter_t hF hf (by omega)).trans (congrArg some e2), e1⟩
  · intro i hi
    obtain ⟨e1, e2⟩ := hword i hi
    rw [e1, (h3.at hi).2.2]
    exact fits_ok hM hW (vL_lt hF hf i).1 e2 _
  · intro a i ha hi
    obtain ⟨e1, e2⟩ := hword i hi
    obtain ⟨e3, e4⟩ := hword a (by omega)
    rw [e1, e3]
    exact rhyme_ok hd hW.1 hs e4 e2
/-- the same of a state of the reference whose lines are laid and whose sounds are heard -/
theorem JH_ok {t7 : S7} {t10 : S10} {t1 : S1} {n W F f : Nat} {s : SM} {r sd : Nat → Int32} (hM : MR t7 (mA s 11)) (hW : WR t10 W (mA s 9)) (hF : FR t1 F (mA s 10)) (hf : f < F) (hn : n ≤ 8) (hr : LW n W r) (h25 : mI s 25 = nI n) (h24 : ∀ j, j < 3 * n → mA s 24 j = r j) (hs : ∀ w, w < W → mA s 31 w = sd w) : JH (vL (mA s 10) f) (vO (mA s 10) (mA s 11) (mA s 9) f r) (vR sd r) n f s := by
  have h16 := hW.1
  have hword : ∀ i, i < n → r (3 * i) = nI (cn (r (3 * i))) ∧ cn (r (3 * i)) < W := fun i hi => Lb_cn (hr i hi).1 (by omega)
  refine ⟨h25, fun i => cn (r (3 * i)), fun i hi => ⟨?_, ?_⟩, fun s' hs' => ⟨?_, ?_⟩, ?_, ?_⟩
  · rw [h24 (3 * i) (by omega)]; exact (hword i hi).1
  · have := (hword i hi).2; show cn (r (3 * i)) < 16; omega
  · intro i hi
    have hF' : FR t1 F (mA s' 10) := by rw [hs'.2.1 10 (by decide)]; exact hF
    rw [letterOf_t hF' hf (by omega), hs'.2.1 10 (by decide), (vL_lt hF hf i).2]
  · intro i hi
    have hF' : FR t1 F (mA s' 10) := by rw [hs'.2.1 10 (by decide)]; exact hF
    have hw := (hword i hi).2
    show F_X12_isMetre s' (nI f) (nI i) (nI (cn (r (3 * i)))) = _
    rw [isMetre_ok hF' hf (by omega) (by omega), hs'.2.1 10 (by decide), hs'.2.1 11 (by decide), hs'.2.1 9 (by decide), hs'.2.1 24 (by decide), h24 (3 * i + 2) (by omega)]
    rfl
  · intro i _
    exact (vL_lt hF hf i).1
  · intro a i ha hi
    have w1 := (hword i hi).2
    have w2 := (hword a (by omega)).2
    unfold vR rhv
    rw [hs _ w1, hs _ w2]
    simp only [Bool.and_eq_true, decide_eq_true_eq]
theorem lays_t {s : SM} {P : Nat} (hP : mA s 21 0 = nI P) (h8 : P ≤ 8) : An (F_X12_lays s) (fun s' => Fr [25] [24] [] s s' ∧ mI s' 25 = nI P ∧ ∀ j, j < 3 * P → mA s' 24 j = mA s 21 (1 + j)) := by
  unfold F_X12_lays
  simp (disch := omega) only [hP, and_true, true_and, and_false, false_and, or_true, true_or, or_false, false_or, not_true_eq_false, not_false_eq_true, nm_at, Option.bind_some, if_true, if_false, ↓k_m1, ↓k_m2, ↓k_m3, ↓k_m5, ↓k_m9, ↓k_m10, ↓k_mno, k_0, k_1, k_2, k_3, k_4, k_5, k_6, k_7, k_8, k_9, k_10, k_11, k_12, k_13, k_14, k_15, k_16, k_17, k_18, k_19, k_20, k_21, k_22, k_23, k_24, k_25, k_26, k_27, k_28, k_29, k_30, k_31, k_32, k_36, k_48, k_50, k_57, k_58, k_59, k_64, k_97, k_99, k_100, k_101, k_102, k_104, k_105, k_107, k_108, k_109, k_110, k_111, k_114, k_115, k_116, k_119, k_122, k_128, k_255, k_500, k_1000, k_1023, k_10000, k_100000, nI_add, nI_mul, nI_sub, nI_sub0, nI_leI, nI_ltI, nI_eq, nM_lt, nM_le, nM_nlt, nM_nle, nM_ne, nM_ne', nM_eq, q_ii, q_ia, q_ij, q_it, q_aa, q_ai, q_aj, q_at, q_jj, q_ji, q_ja, q_jt, q_tt, q_ti, q_ta, q_tj, u_at, uL_at, Nat.zero_mul, Nat.mul_zero, Nat.one_mul, Nat.mul_one, Nat.zero_add, Nat.add_zero, nI_toInt, agN, asN, agLN, asLN, atvN, setvN, if_pos, if_neg]
  refine lp_up (fun q v s' => F_X12_lays_b12 q v s') (3 * P) (fun m s' => Fr [25] [24] [] s s' ∧ mI s' 25 = nI P ∧ ∀ j, j < m → mA s' 24 j = mA s 21 (1 + j)) _ ?_ ?_ fu 0 _ (by omega) (by unfold fu; omega) ⟨(Fr.rf s).i 25 _ (by decide), by simp (disch := omega) only [and_true, true_and, and_false, false_and, or_true, true_or, or_false, false_or, not_true_eq_false, not_false_eq_true, nm_at, Option.bind_some, if_true, if_false, ↓k_m1, ↓k_m2, ↓k_m3, ↓k_m5, ↓k_m9, ↓k_m10, ↓k_mno, k_0, k_1, k_2, k_3, k_4, k_5, k_6, k_7, k_8, k_9, k_10, k_11, k_12, k_13, k_14, k_15, k_16, k_17, k_18, k_19, k_20, k_21, k_22, k_23, k_24, k_25, k_26, k_27, k_28, k_29, k_30, k_31, k_32, k_36, k_48, k_50, k_57, k_58, k_59, k_64, k_97, k_99, k_100, k_101, k_102, k_104, k_105, k_107, k_108, k_109, k_110, k_111, k_114, k_115, k_116, k_119, k_122, k_128, k_255, k_500, k_1000, k_1023, k_10000, k_100000, nI_add, nI_mul, nI_sub, nI_sub0, nI_leI, nI_ltI, nI_eq, nM_lt, nM_le, nM_nlt, nM_nle, nM_ne, nM_ne', nM_eq, q_ii, q_ia, q_ij, q_it, q_aa, q_ai, q_aj, q_at, q_jj, q_ji, q_ja, q_jt, q_tt, q_ti, q_ta, q_tj, u_at, uL_at, Nat.zero_mul, Nat.mul_zero, Nat.one_mul, Nat.mul_one, Nat.zero_add, Nat.add_zero, nI_toInt, agN, asN, agLN, asLN, atvN, setvN, if_pos, if_neg], fun j hj => by omega⟩
  · intro q m s' hm ⟨h1, h2, h3⟩ hK
    have e21 := h1.2.1 21 (by decide)
    show An (F_X12_lays_b12 (q + 1) (nI m) s') _
    rw [F_X12_lays_b12]
    simp (disch := omega) only [h2, and_true, true_and, and_false, false_and, or_true, true_or, or_false, false_or, not_true_eq_false, not_false_eq_true, nm_at, Option.bind_some, if_true, if_false, ↓k_m1, ↓k_m2, ↓k_m3, ↓k_m5, ↓k_m9, ↓k_m10, ↓k_mno, k_0, k_1, k_2, k_3, k_4, k_5, k_6, k_7, k_8, k_9, k_10, k_11, k_12, k_13, k_14, k_15, k_16, k_17, k_18, k_19, k_20, k_21, k_22, k_23, k_24, k_25, k_26, k_27, k_28, k_29, k_30, k_31, k_32, k_36, k_48, k_50, k_57, k_58, k_59, k_64, k_97, k_99, k_100, k_101, k_102, k_104, k_105, k_107, k_108, k_109, k_110, k_111, k_114, k_115, k_116, k_119, k_122, k_128, k_255, k_500, k_1000, k_1023, k_10000, k_100000, nI_add, nI_mul, nI_sub, nI_sub0, nI_leI, nI_ltI, nI_eq, nM_lt, nM_le, nM_nlt, nM_nle, nM_ne, nM_ne', nM_eq, q_ii, q_ia, q_ij, q_it, q_aa, q_ai, q_aj, q_at, q_jj, q_ji, q_ja, q_jt, q_tt, q_ti, q_ta, q_tj, u_at, uL_at, Nat.zero_mul, Nat.mul_zero, Nat.one_mul, Nat.mul_one, Nat.zero_add, Nat.add_zero, nI_toInt, agN, asN, agLN, asLN, atvN, setvN, if_pos, if_neg]
    refine hK _ ⟨h1.a 24 _ (by decide), h2, ?_⟩
    intro j hj
    by_cases k : j = m
    · simp (disch := omega) only [k, e21, and_true, true_and, and_false, false_and, or_true, true_or, or_false, false_or, not_true_eq_false, not_false_eq_true, nm_at, Option.bind_some, if_true, if_false, ↓k_m1, ↓k_m2, ↓k_m3, ↓k_m5, ↓k_m9, ↓k_m10, ↓k_mno, k_0, k_1, k_2, k_3, k_4, k_5, k_6, k_7, k_8, k_9, k_10, k_11, k_12, k_13, k_14, k_15, k_16, k_17, k_18, k_19, k_20, k_21, k_22, k_23, k_24, k_25, k_26, k_27, k_28, k_29, k_30, k_31, k_32, k_36, k_48, k_50, k_57, k_58, k_59, k_64, k_97, k_99, k_100, k_101, k_102, k_104, k_105, k_107, k_108, k_109, k_110, k_111, k_114, k_115, k_116, k_119, k_122, k_128, k_255, k_500, k_1000, k_1023, k_10000, k_100000, nI_add, nI_mul, nI_sub, nI_sub0, nI_leI, nI_ltI, nI_eq, nM_lt, nM_le, nM_nlt, nM_nle, nM_ne, nM_ne', nM_eq, q_ii, q_ia, q_ij, q_it, q_aa, q_ai, q_aj, q_at, q_jj, q_ji, q_ja, q_jt, q_tt, q_ti, q_ta, q_tj, u_at, uL_at, Nat.zero_mul, Nat.mul_zero, Nat.one_mul, Nat.mul_one, Nat.zero_add, Nat.add_zero, nI_toInt, agN, asN, agLN, asLN, atvN, setvN, if_pos, if_neg]
    · simp (disch := omega) only [and_true, true_and, and_false, false_and, or_true, true_or, or_false, false_or, not_true_eq_false, not_false_eq_true, nm_at, Option.bind_some, if_true, if_false, ↓k_m1, ↓k_m2, ↓k_m3, ↓k_m5, ↓k_m9, ↓k_m10, ↓k_mno, k_0, k_1, k_2, k_3, k_4, k_5, k_6, k_7, k_8, k_9, k_10, k_11, k_12, k_13, k_14, k_15, k_16, k_17, k_18, k_19, k_20, k_21, k_22, k_23, k_24, k_25, k_26, k_27, k_28, k_29, k_30, k_31, k_32, k_36, k_48, k_50, k_57, k_58, k_59, k_64, k_97, k_99, k_100, k_101, k_102, k_104, k_105, k_107, k_108, k_109, k_110, k_111, k_114, k_115, k_116, k_119, k_122, k_128, k_255, k_500, k_1000, k_1023, k_10000, k_100000, nI_add, nI_mul, nI_sub, nI_sub0, nI_leI, nI_ltI, nI_eq, nM_lt, nM_le, nM_nlt, nM_nle, nM_ne, nM_ne', nM_eq, q_ii, q_ia, q_ij, q_it, q_aa, q_ai, q_aj, q_at, q_jj, q_ji, q_ja, q_jt, q_tt, q_ti, q_ta, q_tj, u_at, uL_at, Nat.zero_mul, Nat.mul_zero, Nat.one_mul, Nat.mul_one, Nat.zero_add, Nat.add_zero, nI_toInt, agN, asN, agLN, asLN, atvN, setvN, if_pos, if_neg]; exact h3 j (by omega)
  · intro q s' ⟨h1, h2, h3⟩
    show An (F_X12_lays_b12 (q + 1) (nI (3 * P)) s') _
    rw [F_X12_lays_b12]
    simp (disch := omega) only [h2, and_true, true_and, and_false, false_and, or_true, true_or, or_false, false_or, not_true_eq_false, not_false_eq_true, nm_at, Option.bind_some, if_true, if_false, ↓k_m1, ↓k_m2, ↓k_m3, ↓k_m5, ↓k_m9, ↓k_m10, ↓k_mno, k_0, k_1, k_2, k_3, k_4, k_5, k_6, k_7, k_8, k_9, k_10, k_11, k_12, k_13, k_14, k_15, k_16, k_17, k_18, k_19, k_20, k_21, k_22, k_23, k_24, k_25, k_26, k_27, k_28, k_29, k_30, k_31, k_32, k_36, k_48, k_50, k_57, k_58, k_59, k_64, k_97, k_99, k_100, k_101, k_102, k_104, k_105, k_107, k_108, k_109, k_110, k_111, k_114, k_115, k_116, k_119, k_122, k_128, k_255, k_500, k_1000, k_1023, k_10000, k_100000, nI_add, nI_mul, nI_sub, nI_sub0, nI_leI, nI_ltI, nI_eq, nM_lt, nM_le, nM_nlt, nM_nle, nM_ne, nM_ne', nM_eq, q_ii, q_ia, q_ij, q_it, q_aa, q_ai, q_aj, q_at, q_jj, q_ji, q_ja, q_jt, q_tt, q_ti, q_ta, q_tj, u_at, uL_at, Nat.zero_mul, Nat.mul_zero, Nat.one_mul, Nat.mul_one, Nat.zero_add, Nat.add_zero, nI_toInt, agN, asN, agLN, asLN, atvN, setvN, if_pos, if_neg]
    exact An_some ⟨h1, h2, h3⟩
theorem hears_t {s : SM} {d : Nat} (hd : d < 4) : An (F_X12_hears s (nI d)) (fun s' => Fr [] [31] [] s s' ∧ ∀ w, w < 16 → mA s' 31 w = mA s 9 (4 * w + d)) := by
  unfold F_X12_hears
  simp (disch := omega) only [and_true, true_and, and_false, false_and, or_true, true_or, or_false, false_or, not_true_eq_false, not_false_eq_true, nm_at, Option.bind_some, if_true, if_false, ↓k_m1, ↓k_m2, ↓k_m3, ↓k_m5, ↓k_m9, ↓k_m10, ↓k_mno, k_0, k_1, k_2, k_3, k_4, k_5, k_6, k_7, k_8, k_9, k_10, k_11, k_12, k_13, k_14, k_15, k_16, k_17, k_18, k_19, k_20, k_21, k_22, k_23, k_24, k_25, k_26, k_27, k_28, k_29, k_30, k_31, k_32, k_36, k_48, k_50, k_57, k_58, k_59, k_64, k_97, k_99, k_100, k_101, k_102, k_104, k_105, k_107, k_108, k_109, k_110, k_111, k_114, k_115, k_116, k_119, k_122, k_128, k_255, k_500, k_1000, k_1023, k_10000, k_100000, nI_add, nI_mul, nI_sub, nI_sub0, nI_leI, nI_ltI, nI_eq, nM_lt, nM_le, nM_nlt, nM_nle, nM_ne, nM_ne', nM_eq, q_ii, q_ia, q_ij, q_it, q_aa, q_ai, q_aj, q_at, q_jj, q_ji, q_ja, q_jt, q_tt, q_ti, q_ta, q_tj, u_at, uL_at, Nat.zero_mul, Nat.mul_zero, Nat.one_mul, Nat.mul_one, Nat.zero_add, Nat.add_zero, nI_toInt, agN, asN, agLN, asLN, atvN, setvN, if_pos, if_neg]
  refine lp_up (fun q v s' => F_X12_hears_b2 (nI d) q v s') 16 (fun m s' => Fr [] [31] [] s s' ∧ ∀ w, w < m → mA s' 31 w = mA s 9 (4 * w + d)) _ ?_ ?_ fu 0 _ (by omega) (by unfold fu; omega) ⟨Fr.rf s, fun j hj => by omega⟩
  · intro q m s' hm ⟨h1, h2⟩ hK
    have e9 := h1.2.1 9 (by decide)
    show An (F_X12_hears_b2 (nI d) (q + 1) (nI m) s') _
    rw [F_X12_hears_b2]
    simp (disch := omega) only [and_true, true_and, and_false, false_and, or_true, true_or, or_false, false_or, not_true_eq_false, not_false_eq_true, nm_at, Option.bind_some, if_true, if_false, ↓k_m1, ↓k_m2, ↓k_m3, ↓k_m5, ↓k_m9, ↓k_m10, ↓k_mno, k_0, k_1, k_2, k_3, k_4, k_5, k_6, k_7, k_8, k_9, k_10, k_11, k_12, k_13, k_14, k_15, k_16, k_17, k_18, k_19, k_20, k_21, k_22, k_23, k_24, k_25, k_26, k_27, k_28, k_29, k_30, k_31, k_32, k_36, k_48, k_50, k_57, k_58, k_59, k_64, k_97, k_99, k_100, k_101, k_102, k_104, k_105, k_107, k_108, k_109, k_110, k_111, k_114, k_115, k_116, k_119, k_122, k_128, k_255, k_500, k_1000, k_1023, k_10000, k_100000, nI_add, nI_mul, nI_sub, nI_sub0, nI_leI, nI_ltI, nI_eq, nM_lt, nM_le, nM_nlt, nM_nle, nM_ne, nM_ne', nM_eq, q_ii, q_ia, q_ij, q_it, q_aa, q_ai, q_aj, q_at, q_jj, q_ji, q_ja, q_jt, q_tt, q_ti, q_ta, q_tj, u_at, uL_at, Nat.zero_mul, Nat.mul_zero, Nat.one_mul, Nat.mul_one, Nat.zero_add, Nat.add_zero, nI_toInt, agN, asN, agLN, asLN, atvN, setvN, if_pos, if_neg]
    refine hK _ ⟨h1.a 31 _ (by decide), ?_⟩
    intro j hj
    by_cases k : j = m
    · simp (disch := omega) only [k, e9, and_true, true_and, and_false, false_and, or_true, true_or, or_false, false_or, not_true_eq_false, not_false_eq_true, nm_at, Option.bind_some, if_true, if_false, ↓k_m1, ↓k_m2, ↓k_m3, ↓k_m5, ↓k_m9, ↓k_m10, ↓k_mno, k_0, k_1, k_2, k_3, k_4, k_5, k_6, k_7, k_8, k_9, k_10, k_11, k_12, k_13, k_14, k_15, k_16, k_17, k_18, k_19, k_20, k_21, k_22, k_23, k_24, k_25, k_26, k_27, k_28, k_29, k_30, k_31, k_32, k_36, k_48, k_50, k_57, k_58, k_59, k_64, k_97, k_99, k_100, k_101, k_102, k_104, k_105, k_107, k_108, k_109, k_110, k_111, k_114, k_115, k_116, k_119, k_122, k_128, k_255, k_500, k_1000, k_1023, k_10000, k_100000, nI_add, nI_mul, nI_sub, nI_sub0, nI_leI, nI_ltI, nI_eq, nM_lt, nM_le, nM_nlt, nM_nle, nM_ne, nM_ne', nM_eq, q_ii, q_ia, q_ij, q_it, q_aa, q_ai, q_aj, q_at, q_jj, q_ji, q_ja, q_jt, q_tt, q_ti, q_ta, q_tj, u_at, uL_at, Nat.zero_mul, Nat.mul_zero, Nat.one_mul, Nat.mul_one, Nat.zero_add, Nat.add_zero, nI_toInt, agN, asN, agLN, asLN, atvN, setvN, if_pos, if_neg]
    · simp (disch := omega) only [and_true, true_and, and_false, false_and, or_true, true_or, or_false, false_or, not_true_eq_false, not_false_eq_true, nm_at, Option.bind_some, if_true, if_false, ↓k_m1, ↓k_m2, ↓k_m3, ↓k_m5, ↓k_m9, ↓k_m10, ↓k_mno, k_0, k_1, k_2, k_3, k_4, k_5, k_6, k_7, k_8, k_9, k_10, k_11, k_12, k_13, k_14, k_15, k_16, k_17, k_18, k_19, k_20, k_21, k_22, k_23, k_24, k_25, k_26, k_27, k_28, k_29, k_30, k_31, k_32, k_36, k_48, k_50, k_57, k_58, k_59, k_64, k_97, k_99, k_100, k_101, k_102, k_104, k_105, k_107, k_108, k_109, k_110, k_111, k_114, k_115, k_116, k_119, k_122, k_128, k_255, k_500, k_1000, k_1023, k_10000, k_100000, nI_add, nI_mul, nI_sub, nI_sub0, nI_leI, nI_ltI, nI_eq, nM_lt, nM_le, nM_nlt, nM_nle, nM_ne, nM_ne', nM_eq, q_ii, q_ia, q_ij, q_it, q_aa, q_ai, q_aj, q_at, q_jj, q_ji, q_ja, q_jt, q_tt, q_ti, q_ta, q_tj, u_at, uL_at, Nat.zero_mul, Nat.mul_zero, Nat.one_mul, Nat.mul_one, Nat.zero_add, Nat.add_zero, nI_toInt, agN, asN, agLN, asLN, atvN, setvN, if_pos, if_neg]; exact h2 j (by omega)
  · intro q s' ⟨h1, h2⟩
    show An (F_X12_hears_b2 (nI d) (q + 1) (nI 16) s') _
    rw [F_X12_hears_b2]
    simp (disch := omega) only [and_true, true_and, and_false, false_and, or_true, true_or, or_false, false_or, not_true_eq_false, not_false_eq_true, nm_at, Option.bind_some, if_true, if_false, ↓k_m1, ↓k_m2, ↓k_m3, ↓k_m5, ↓k_m9, ↓k_m10, ↓k_mno, k_0, k_1, k_2, k_3, k_4, k_5, k_6, k_7, k_8, k_9, k_10, k_11, k_12, k_13, k_14, k_15, k_16, k_17, k_18, k_19, k_20, k_21, k_22, k_23, k_24, k_25, k_26, k_27, k_28, k_29, k_30, k_31, k_32, k_36, k_48, k_50, k_57, k_58, k_59, k_64, k_97, k_99, k_100, k_101, k_102, k_104, k_105, k_107, k_108, k_109, k_110, k_111, k_114, k_115, k_116, k_119, k_122, k_128, k_255, k_500, k_1000, k_1023, k_10000, k_100000, nI_add, nI_mul, nI_sub, nI_sub0, nI_leI, nI_ltI, nI_eq, nM_lt, nM_le, nM_nlt, nM_nle, nM_ne, nM_ne', nM_eq, q_ii, q_ia, q_ij, q_it, q_aa, q_ai, q_aj, q_at, q_jj, q_ji, q_ja, q_jt, q_tt, q_ti, q_ta, q_tj, u_at, uL_at, Nat.zero_mul, Nat.mul_zero, Nat.one_mul, Nat.mul_one, Nat.zero_add, Nat.add_zero, nI_toInt, agN, asN, agLN, asLN, atvN, setvN, if_pos, if_neg]
    exact An_some ⟨h1, h2⟩
/-- the paper laid and heard -/
def LH (W P d : Nat) (s s' : SM) : Prop := Fr [25] [24, 31] [] s s' ∧ mI s' 25 = nI P ∧ (∀ j, j < 3 * P → mA s' 24 j = mA s 21 (1 + j)) ∧ ∀ w, w < 16 → mA s' 31 w = mA s 9 (4 * w + d)
theorem lh_t {s : SM} {P d : Nat} (W : Nat) (hP : mA s 21 0 = nI P) (h8 : P ≤ 8) (hd : d < 4) {B : Type} {K : SM → Option B} {Q : B → Prop} (hk : ∀ s', LH W P d s s' → An (K s') Q) : An ((F_X12_lays s).bind fun q => (F_X12_hears q (nI d)).bind K) Q := by
  refine An_bind (lays_t hP h8) fun s1 ⟨a1, a2, a3⟩ => ?_
  refine An_bind (hears_t hd) fun s2 ⟨b1, b2⟩ => ?_
  refine hk s2 ⟨(a1.wd (by decide) (by decide) (by decide)).tr (b1.wd (by decide) (by decide) (by decide)), ?_, ?_, ?_⟩
  · rw [b1.1 25 (by decide)]; exact a2
  · rw [b1.2.1 24 (by decide)]; exact a3
  · intro w hw; rw [b2 w hw, a1.2.1 9 (by decide)]
/-- what stands behind the reference's judging of the paper -/
def PJ (rf rm rw r : Nat → Int32) (sd : Nat → Int32) (f n : Nat) (s s' : SM) : Prop := Fr [25] [24, 31, 26, 27, 28, 29] [] s s' ∧ mI s' 25 = nI n ∧ (∀ j, j < 3 * n → mA s' 24 j = r j) ∧ JJ (vL rf f) (vO rf rm rw f r) (vR sd r) n s' ∧ ∀ w, w < 16 → mA s' 31 w = sd w
theorem jp_t {t7 : S7} {t10 : S10} {t1 : S1} {P W F f d : Nat} {s : SM} (hM : MR t7 (mA s 11)) (hW : WR t10 W (mA s 9)) (hF : FR t1 F (mA s 10)) (hf : f < F) (hP : mA s 21 0 = nI P) (h8 : P ≤ 8) (hr : LW P W (fun j => mA s 21 (1 + j))) (hd : d < 2) : An (F_X12_judgesPaper s (nI f) (nI d)) (PJ (mA s 10) (mA s 11) (mA s 9) (fun j => mA s 21 (1 + j)) (fun w => mA s 9 (4 * w + d)) f P s) := by
  unfold F_X12_judgesPaper
  have h16 := hW.1
  refine lh_t W hP h8 (by omega) fun s' ⟨a1, a2, a3, a4⟩ => ?_
  have e9 := a1.2.1 9 (by decide)
  have e10 := a1.2.1 10 (by decide)
  have e11 := a1.2.1 11 (by decide)
  have hJ := JH_ok (t7 := t7) (t10 := t10) (t1 := t1) (s := s') (f := f) (F := F) (W := W) (n := P) (r := fun j => mA s 21 (1 + j)) (sd := fun w => mA s 9 (4 * w + d)) (by rw [e11]; exact hM) (by rw [e9]; exact hW) (by rw [e10]; exact hF) hf h8 hr a2 a3 (fun w hw => a4 w (by omega))
  rw [e9, e10, e11] at hJ
  refine An_bind (judges_t h8 hJ) fun s2 ⟨b1, b2⟩ => ?_
  refine An_some ⟨(a1.wd (by decide) (by decide) (by decide)).tr (b1.wd (by decide) (by decide) (by decide)), ?_, ?_, b2, ?_⟩
  · rw [b1.1 25 (by decide)]; exact a2
  · rw [b1.2.1 24 (by decide)]; exact a3
  · intro w hw; rw [b1.2.1 31 (by decide)]; exact a4 w hw
