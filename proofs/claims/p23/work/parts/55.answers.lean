/-! ===== what is answered of a view ===== -/
theorem tb_nIi (z : Int32) {i : Nat} (hi : i < 32) : ((z >>> (nI i &&& nI 31)) &&& nI 1 = nI 0) = (tb z i = false) := tb_sh0 z hi
theorem binds_t {L : Nat → Nat} {ok : Nat → Bool} {rh : Nat → Nat → Bool} {n m i : Nat} {z : S9} (h : VV L ok rh n m z) (hi : i < 32) : ∃ b : Nat, b < 2 ∧ F_X9_binds z (nI i) = some (nI b) ∧ (b = 1 ↔ bnd L ok rh m i) := by
  have e := h.2.2 i hi
  unfold F_X9_binds
  cases c : tb (s9_binding z) i
  · refine ⟨0, by omega, ?_, ?_⟩
    · rw [if_pos (by rw [tb_sh0 _ hi]; exact c)]; rfl
    · rw [← e, c]; simp
  · refine ⟨1, by omega, ?_, ?_⟩
    · rw [if_neg (by rw [tb_sh0 _ hi, c]; simp)]; rfl
    · rw [← e, c]; simp
/-- the first that does not -/
def empP (b : Nat → Prop) (n : Nat) (r : Int32) : Prop := (r = nM 9 ∧ ∀ i, i < n → b i) ∨ ∃ i, i < n ∧ r = nI i ∧ ¬ b i ∧ ∀ j, j < i → b j
theorem emp_uniq {b : Nat → Prop} {n : Nat} {r r2 : Int32} (h : empP b n r) (h2 : empP b n r2) : r = r2 := by
  rcases h with ⟨e, h⟩ | ⟨i, hi, e, h3, h4⟩
  · rcases h2 with ⟨e2, -⟩ | ⟨j, hj, e2, h5, -⟩
    · rw [e, e2]
    · exact absurd (h j hj) h5
  · rcases h2 with ⟨e2, h2⟩ | ⟨j, hj, e2, h5, h6⟩
    · exact absurd (h2 i hi) h3
    · have : i = j := by
        rcases Nat.lt_trichotomy i j with c | c | c
        · exact absurd (h6 i c) h3
        · exact c
        · exact absurd (h4 j c) h5
      rw [e, e2, this]
theorem loose_t {L : Nat → Nat} {ok : Nat → Bool} {rh : Nat → Nat → Bool} {n : Nat} {z : S9} (hn : n ≤ 8) (h : VV L ok rh n n z) : An (F_X9_firstLoose z) (empP (bnd L ok rh n) n) := by
  unfold F_X9_firstLoose
  simp (disch := omega) only [and_true, true_and, and_false, false_and, or_true, true_or, or_false, false_or, not_true_eq_false, not_false_eq_true, nm_at, Option.bind_some, if_true, if_false, ↓k_m1, ↓k_m2, ↓k_m3, ↓k_m5, ↓k_m9, ↓k_m10, ↓k_mno, k_0, k_1, k_2, k_3, k_4, k_5, k_6, k_7, k_8, k_9, k_10, k_11, k_12, k_13, k_14, k_15, k_16, k_17, k_18, k_19, k_20, k_21, k_22, k_23, k_24, k_25, k_26, k_27, k_28, k_29, k_30, k_31, k_32, k_36, k_48, k_50, k_57, k_58, k_59, k_64, k_97, k_99, k_100, k_101, k_102, k_104, k_105, k_107, k_108, k_109, k_110, k_111, k_114, k_115, k_116, k_119, k_122, k_128, k_255, k_500, k_1000, k_1023, k_10000, k_100000, nI_add, nI_mul, nI_sub, nI_sub0, nI_leI, nI_ltI, nI_eq, nM_lt, nM_le, nM_nlt, nM_nle, nM_ne, nM_ne', nM_eq, q_ii, q_ia, q_ij, q_it, q_aa, q_ai, q_aj, q_at, q_jj, q_ji, q_ja, q_jt, q_tt, q_ti, q_ta, q_tj, u_at, uL_at, Nat.zero_mul, Nat.mul_zero, Nat.one_mul, Nat.mul_one, Nat.zero_add, Nat.add_zero, nI_toInt, agN, asN, agLN, asLN, atvN, setvN, if_pos, if_neg]
  refine lp_up (fun q v (_ : Unit) => F_X9_firstLoose_b2 z q v) n (fun m _ => ∀ j, j < m → bnd L ok rh n j) _ ?_ ?_ fu 0 () (by omega) (by unfold fu; omega) (fun j hj => by omega)
  · intro q m _ hm hI hK
    obtain ⟨b, hb, e1, e2⟩ := binds_t h (i := m) (by omega)
    show An (F_X9_firstLoose_b2 z (q + 1) (nI m)) _
    rw [F_X9_firstLoose_b2, h.1]
    by_cases c : b = 1
    · subst c
      simp (disch := omega) only [e1, and_true, true_and, and_false, false_and, or_true, true_or, or_false, false_or, not_true_eq_false, not_false_eq_true, nm_at, Option.bind_some, if_true, if_false, ↓k_m1, ↓k_m2, ↓k_m3, ↓k_m5, ↓k_m9, ↓k_m10, ↓k_mno, k_0, k_1, k_2, k_3, k_4, k_5, k_6, k_7, k_8, k_9, k_10, k_11, k_12, k_13, k_14, k_15, k_16, k_17, k_18, k_19, k_20, k_21, k_22, k_23, k_24, k_25, k_26, k_27, k_28, k_29, k_30, k_31, k_32, k_36, k_48, k_50, k_57, k_58, k_59, k_64, k_97, k_99, k_100, k_101, k_102, k_104, k_105, k_107, k_108, k_109, k_110, k_111, k_114, k_115, k_116, k_119, k_122, k_128, k_255, k_500, k_1000, k_1023, k_10000, k_100000, nI_add, nI_mul, nI_sub, nI_sub0, nI_leI, nI_ltI, nI_eq, nM_lt, nM_le, nM_nlt, nM_nle, nM_ne, nM_ne', nM_eq, q_ii, q_ia, q_ij, q_it, q_aa, q_ai, q_aj, q_at, q_jj, q_ji, q_ja, q_jt, q_tt, q_ti, q_ta, q_tj, u_at, uL_at, Nat.zero_mul, Nat.mul_zero, Nat.one_mul, Nat.mul_one, Nat.zero_add, Nat.add_zero, nI_toInt, agN, asN, agLN, asLN, atvN, setvN, if_pos, if_neg]
      refine hK () fun j hj => ?_
      by_cases k : j = m
      · rw [k]; exact e2.mp rfl
      · exact hI j (by omega)
    · simp (disch := omega) only [e1, and_true, true_and, and_false, false_and, or_true, true_or, or_false, false_or, not_true_eq_false, not_false_eq_true, nm_at, Option.bind_some, if_true, if_false, ↓k_m1, ↓k_m2, ↓k_m3, ↓k_m5, ↓k_m9, ↓k_m10, ↓k_mno, k_0, k_1, k_2, k_3, k_4, k_5, k_6, k_7, k_8, k_9, k_10, k_11, k_12, k_13, k_14, k_15, k_16, k_17, k_18, k_19, k_20, k_21, k_22, k_23, k_24, k_25, k_26, k_27, k_28, k_29, k_30, k_31, k_32, k_36, k_48, k_50, k_57, k_58, k_59, k_64, k_97, k_99, k_100, k_101, k_102, k_104, k_105, k_107, k_108, k_109, k_110, k_111, k_114, k_115, k_116, k_119, k_122, k_128, k_255, k_500, k_1000, k_1023, k_10000, k_100000, nI_add, nI_mul, nI_sub, nI_sub0, nI_leI, nI_ltI, nI_eq, nM_lt, nM_le, nM_nlt, nM_nle, nM_ne, nM_ne', nM_eq, q_ii, q_ia, q_ij, q_it, q_aa, q_ai, q_aj, q_at, q_jj, q_ji, q_ja, q_jt, q_tt, q_ti, q_ta, q_tj, u_at, uL_at, Nat.zero_mul, Nat.mul_zero, Nat.one_mul, Nat.mul_one, Nat.zero_add, Nat.add_zero, nI_toInt, agN, asN, agLN, asLN, atvN, setvN, if_pos, if_neg]
      exact An_some (Or.inr ⟨m, hm, rfl, fun z => c (e2.mpr z), hI⟩)
  · intro q _ hI
    show An (F_X9_firstLoose_b2 z (q + 1) (nI n)) _
    rw [F_X9_firstLoose_b2, h.1]
    simp (disch := omega) only [and_true, true_and, and_false, false_and, or_true, true_or, or_false, false_or, not_true_eq_false, not_false_eq_true, nm_at, Option.bind_some, if_true, if_false, ↓k_m1, ↓k_m2, ↓k_m3, ↓k_m5, ↓k_m9, ↓k_m10, ↓k_mno, k_0, k_1, k_2, k_3, k_4, k_5, k_6, k_7, k_8, k_9, k_10, k_11, k_12, k_13, k_14, k_15, k_16, k_17, k_18, k_19, k_20, k_21, k_22, k_23, k_24, k_25, k_26, k_27, k_28, k_29, k_30, k_31, k_32, k_36, k_48, k_50, k_57, k_58, k_59, k_64, k_97, k_99, k_100, k_101, k_102, k_104, k_105, k_107, k_108, k_109, k_110, k_111, k_114, k_115, k_116, k_119, k_122, k_128, k_255, k_500, k_1000, k_1023, k_10000, k_100000, nI_add, nI_mul, nI_sub, nI_sub0, nI_leI, nI_ltI, nI_eq, nM_lt, nM_le, nM_nlt, nM_nle, nM_ne, nM_ne', nM_eq, q_ii, q_ia, q_ij, q_it, q_aa, q_ai, q_aj, q_at, q_jj, q_ji, q_ja, q_jt, q_tt, q_ti, q_ta, q_tj, u_at, uL_at, Nat.zero_mul, Nat.mul_zero, Nat.one_mul, Nat.mul_one, Nat.zero_add, Nat.add_zero, nI_toInt, agN, asN, agLN, asLN, atvN, setvN, if_pos, if_neg]
    exact An_some (Or.inl ⟨rfl, hI⟩)
theorem emptyM_t {L : Nat → Nat} {ok : Nat → Bool} {rh : Nat → Nat → Bool} {n : Nat} {s : SM} (hn : n ≤ 8) (h25 : mI s 25 = nI n) (h : JJ L ok rh n s) : An (F_X12_emptyLine s) (empP (bnd L ok rh n) n) := by
  unfold F_X12_emptyLine
  simp (disch := omega) only [and_true, true_and, and_false, false_and, or_true, true_or, or_false, false_or, not_true_eq_false, not_false_eq_true, nm_at, Option.bind_some, if_true, if_false, ↓k_m1, ↓k_m2, ↓k_m3, ↓k_m5, ↓k_m9, ↓k_m10, ↓k_mno, k_0, k_1, k_2, k_3, k_4, k_5, k_6, k_7, k_8, k_9, k_10, k_11, k_12, k_13, k_14, k_15, k_16, k_17, k_18, k_19, k_20, k_21, k_22, k_23, k_24, k_25, k_26, k_27, k_28, k_29, k_30, k_31, k_32, k_36, k_48, k_50, k_57, k_58, k_59, k_64, k_97, k_99, k_100, k_101, k_102, k_104, k_105, k_107, k_108, k_109, k_110, k_111, k_114, k_115, k_116, k_119, k_122, k_128, k_255, k_500, k_1000, k_1023, k_10000, k_100000, nI_add, nI_mul, nI_sub, nI_sub0, nI_leI, nI_ltI, nI_eq, nM_lt, nM_le, nM_nlt, nM_nle, nM_ne, nM_ne', nM_eq, q_ii, q_ia, q_ij, q_it, q_aa, q_ai, q_aj, q_at, q_jj, q_ji, q_ja, q_jt, q_tt, q_ti, q_ta, q_tj, u_at, uL_at, Nat.zero_mul, Nat.mul_zero, Nat.one_mul, Nat.mul_one, Nat.zero_add, Nat.add_zero, nI_toInt, agN, asN, agLN, asLN, atvN, setvN, if_pos, if_neg]
  refine lp_up (fun q v (_ : Unit) => F_X12_emptyLine_b2 s q v) n (fun m _ => ∀ j, j < m → bnd L ok rh n j) _ ?_ ?_ fu 0 () (by omega) (by unfold fu; omega) (fun j hj => by omega)
  · intro q m _ hm hI hK
    obtain ⟨e1, e2⟩ := h.2 m hm
    show An (F_X12_emptyLine_b2 s (q + 1) (nI m)) _
    rw [F_X12_emptyLine_b2, h25]
    rcases e1 with e1 | e1
    · simp (disch := omega) only [e1, and_true, true_and, and_false, false_and, or_true, true_or, or_false, false_or, not_true_eq_false, not_false_eq_true, nm_at, Option.bind_some, if_true, if_false, ↓k_m1, ↓k_m2, ↓k_m3, ↓k_m5, ↓k_m9, ↓k_m10, ↓k_mno, k_0, k_1, k_2, k_3, k_4, k_5, k_6, k_7, k_8, k_9, k_10, k_11, k_12, k_13, k_14, k_15, k_16, k_17, k_18, k_19, k_20, k_21, k_22, k_23, k_24, k_25, k_26, k_27, k_28, k_29, k_30, k_31, k_32, k_36, k_48, k_50, k_57, k_58, k_59, k_64, k_97, k_99, k_100, k_101, k_102, k_104, k_105, k_107, k_108, k_109, k_110, k_111, k_114, k_115, k_116, k_119, k_122, k_128, k_255, k_500, k_1000, k_1023, k_10000, k_100000, nI_add, nI_mul, nI_sub, nI_sub0, nI_leI, nI_ltI, nI_eq, nM_lt, nM_le, nM_nlt, nM_nle, nM_ne, nM_ne', nM_eq, q_ii, q_ia, q_ij, q_it, q_aa, q_ai, q_aj, q_at, q_jj, q_ji, q_ja, q_jt, q_tt, q_ti, q_ta, q_tj, u_at, uL_at, Nat.zero_mul, Nat.mul_zero, Nat.one_mul, Nat.mul_one, Nat.zero_add, Nat.add_zero, nI_toInt, agN, asN, agLN, asLN, atvN, setvN, if_pos, if_neg]
      refine An_some (Or.inr ⟨m, hm, rfl, fun z => ?_, hI⟩)
      have := e2.mpr z
      rw [e1] at this
      exact absurd this (by decide)
    · simp (disch := omega) only [e1, and_true, true_and, and_false, false_and, or_true, true_or, or_false, false_or, not_true_eq_false, not_false_eq_true, nm_at, Option.bind_some, if_true, if_false, ↓k_m1, ↓k_m2, ↓k_m3, ↓k_m5, ↓k_m9, ↓k_m10, ↓k_mno, k_0, k_1, k_2, k_3, k_4, k_5, k_6, k_7, k_8, k_9, k_10, k_11, k_12, k_13, k_14, k_15, k_16, k_17, k_18, k_19, k_20, k_21, k_22, k_23, k_24, k_25, k_26, k_27, k_28, k_29, k_30, k_31, k_32, k_36, k_48, k_50, k_57, k_58, k_59, k_64, k_97, k_99, k_100, k_101, k_102, k_104, k_105, k_107, k_108, k_109, k_110, k_111, k_114, k_115, k_116, k_119, k_122, k_128, k_255, k_500, k_1000, k_1023, k_10000, k_100000, nI_add, nI_mul, nI_sub, nI_sub0, nI_leI, nI_ltI, nI_eq, nM_lt, nM_le, nM_nlt, nM_nle, nM_ne, nM_ne', nM_eq, q_ii, q_ia, q_ij, q_it, q_aa, q_ai, q_aj, q_at, q_jj, q_ji, q_ja, q_jt, q_tt, q_ti, q_ta, q_tj, u_at, uL_at, Nat.zero_mul, Nat.mul_zero, Nat.one_mul, Nat.mul_one, Nat.zero_add, Nat.add_zero, nI_toInt, agN, asN, agLN, asLN, atvN, setvN, if_pos, if_neg]
      refine hK () fun j hj => ?_
      by_cases k : j = m
      · rw [k]; exact e2.mp e1
      · exact hI j (by omega)
  · intro q _ hI
    show An (F_X12_emptyLine_b2 s (q + 1) (nI n)) _
    rw [F_X12_emptyLine_b2, h25]
    simp (disch := omega) only [and_true, true_and, and_false, false_and, or_true, true_or, or_false, false_or, not_true_eq_false, not_false_eq_true, nm_at, Option.bind_some, if_true, if_false, ↓k_m1, ↓k_m2, ↓k_m3, ↓k_m5, ↓k_m9, ↓k_m10, ↓k_mno, k_0, k_1, k_2, k_3, k_4, k_5, k_6, k_7, k_8, k_9, k_10, k_11, k_12, k_13, k_14, k_15, k_16, k_17, k_18, k_19, k_20, k_21, k_22, k_23, k_24, k_25, k_26, k_27, k_28, k_29, k_30, k_31, k_32, k_36, k_48, k_50, k_57, k_58, k_59, k_64, k_97, k_99, k_100, k_101, k_102, k_104, k_105, k_107, k_108, k_109, k_110, k_111, k_114, k_115, k_116, k_119, k_122, k_128, k_255, k_500, k_1000, k_1023, k_10000, k_100000, nI_add, nI_mul, nI_sub, nI_sub0, nI_leI, nI_ltI, nI_eq, nM_lt, nM_le, nM_nlt, nM_nle, nM_ne, nM_ne', nM_eq, q_ii, q_ia, q_ij, q_it, q_aa, q_ai, q_aj, q_at, q_jj, q_ji, q_ja, q_jt, q_tt, q_ti, q_ta, q_tj, u_at, uL_at, Nat.zero_mul, Nat.mul_zero, Nat.one_mul, Nat.mul_one, Nat.zero_add, Nat.add_zero, nI_toInt, agN, asN, agLN, asLN, atvN, setvN, if_pos, if_neg]
    exact An_some (Or.inl ⟨rfl, hI⟩)
/-- LAW -/
def lawP (b : Nat → Prop) (n : Nat) : Prop := 0 < n ∧ ∀ i, i < n → b i
def is01 (p : Prop) (r : Int32) : Prop := (r = nI 0 ∨ r = nI 1) ∧ (r = nI 1 ↔ p)
theorem is01_uniq {p : Prop} {r r2 : Int32} (h : is01 p r) (h2 : is01 p r2) : r = r2 := by
  have n01 : ¬ nI 0 = nI 1 := by decide
  rcases h with ⟨h | h, e⟩ <;> rcases h2 with ⟨g | g, e2⟩
  · rw [h, g]
  · exact absurd (h ▸ e.mpr (e2.mp g)) n01
  · exact absurd (g ▸ e2.mpr (e.mp h)) n01
  · rw [h, g]
theorem is01_0 {p : Prop} (h : ¬ p) : is01 p (nI 0) := ⟨Or.inl rfl, ⟨fun z => absurd z (by decide), fun z => absurd z h⟩⟩
theorem is01_1 {p : Prop} (h : p) : is01 p (nI 1) := ⟨Or.inr rfl, ⟨fun _ => h, fun _ => rfl⟩⟩
theorem is01_cases {p : Prop} {r : Int32} (h : is01 p r) : (r = nI 0 ∧ ¬ p) ∨ (r = nI 1 ∧ p) := by
  rcases h with ⟨h | h, e⟩
  · refine Or.inl ⟨h, fun z => ?_⟩
    have := e.mpr z
    rw [h] at this
    exact absurd this (by decide)
  · exact Or.inr ⟨h, e.mp h⟩
theorem lawX_t {L : Nat → Nat} {ok : Nat → Bool} {rh : Nat → Nat → Bool} {n : Nat} {z : S9} (hn : n ≤ 8) (h : VV L ok rh n n z) : An (F_X9_isLaw z) (is01 (lawP (bnd L ok rh n) n)) := by
  unfold F_X9_isLaw
  rw [h.1]
  by_cases c : n = 0
  · simp (disch := omega) only [c, and_true, true_and, and_false, false_and, or_true, true_or, or_false, false_or, not_true_eq_false, not_false_eq_true, nm_at, Option.bind_some, if_true, if_false, ↓k_m1, ↓k_m2, ↓k_m3, ↓k_m5, ↓k_m9, ↓k_m10, ↓k_mno, k_0, k_1, k_2, k_3, k_4, k_5, k_6, k_7, k_8, k_9, k_10, k_11, k_12, k_13, k_14, k_15, k_16, k_17, k_18, k_19, k_20, k_21, k_22, k_23, k_24, k_25, k_26, k_27, k_28, k_29, k_30, k_31, k_32, k_36, k_48, k_50, k_57, k_58, k_59, k_64, k_97, k_99, k_100, k_101, k_102, k_104, k_105, k_107, k_108, k_109, k_110, k_111, k_114, k_115, k_116, k_119, k_122, k_128, k_255, k_500, k_1000, k_1023, k_10000, k_100000, nI_add, nI_mul, nI_sub, nI_sub0, nI_leI, nI_ltI, nI_eq, nM_lt, nM_le, nM_nlt, nM_nle, nM_ne, nM_ne', nM_eq, q_ii, q_ia, q_ij, q_it, q_aa, q_ai, q_aj, q_at, q_jj, q_ji, q_ja, q_jt, q_tt, q_ti, q_ta, q_tj, u_at, uL_at, Nat.zero_mul, Nat.mul_zero, Nat.one_mul, Nat.mul_one, Nat.zero_add, Nat.add_zero, nI_toInt, agN, asN, agLN, asLN, atvN, setvN, if_pos, if_neg]
    exact An_some (is01_0 fun q => by have := q.1; omega)
  · by_cases d : s9_binding z = (1 <<< (nI n &&& 31)) - 1
    · rw [if_neg (nI_nle (by omega) (by omega)), if_pos d]
      refine An_some (is01_1 ⟨by omega, fun i hi => ?_⟩)
      rw [← h.2.2 i (by omega), d, tb_ones (by omega) i (by omega)]
      simp [hi]
    · rw [if_neg (nI_nle (by omega) (by omega)), if_neg d]
      refine An_some (is01_0 fun q => d (tb_ext fun j hj => ?_))
      rw [tb_ones (by omega) j hj]
      by_cases e : j < n
      · rw [(h.2.2 j hj).mpr (q.2 j e)]; simp [e]
      · have e2 : ¬ tb (s9_binding z) j = true := fun y => e (bnd_lt ((h.2.2 j hj).mp y))
        simp [e, e2]
theorem lawM_t {L : Nat → Nat} {ok : Nat → Bool} {rh : Nat → Nat → Bool} {n f : Nat} {s : SM} (hn : n ≤ 8) (hJ : JH L ok rh n f s) : An (F_X12_isLaw s (nI f)) (fun q => is01 (lawP (bnd L ok rh n) n) q.1 ∧ Fr [] jA [] s q.2 ∧ JJ L ok rh n q.2) := by
  unfold F_X12_isLaw
  refine An_bind (judges_t hn hJ) fun s1 ⟨a1, a2⟩ => ?_
  have h25 : mI s1 25 = nI n := (a1.1 25 (by decide)).trans hJ.1
  rw [h25]
  by_cases c : n = 0
  · subst c
    simp (disch := omega) only [and_true, true_and, and_false, false_and, or_true, true_or, or_false, false_or, not_true_eq_false, not_false_eq_true, nm_at, Option.bind_some, if_true, if_false, ↓k_m1, ↓k_m2, ↓k_m3, ↓k_m5, ↓k_m9, ↓k_m10, ↓k_mno, k_0, k_1, k_2, k_3, k_4, k_5, k_6, k_7, k_8, k_9, k_10, k_11, k_12, k_13, k_14, k_15, k_16, k_17, k_18, k_19, k_20, k_21, k_22, k_23, k_24, k_25, k_26, k_27, k_28, k_29, k_30, k_31, k_32, k_36, k_48, k_50, k_57, k_58, k_59, k_64, k_97, k_99, k_100, k_101, k_102, k_104, k_105, k_107, k_108, k_109, k_110, k_111, k_114, k_115, k_116, k_119, k_122, k_128, k_255, k_500, k_1000, k_1023, k_10000, k_100000, nI_add, nI_mul, nI_sub, nI_sub0, nI_leI, nI_ltI, nI_eq, nM_lt, nM_le, nM_nlt, nM_nle, nM_ne, nM_ne', nM_eq, q_ii, q_ia, q_ij, q_it, q_aa, q_ai, q_aj, q_at, q_jj, q_ji, q_ja, q_jt, q_tt, q_ti, q_ta, q_tj, u_at, uL_at, Nat.zero_mul, Nat.mul_zero, Nat.one_mul, Nat.mul_one, Nat.zero_add, Nat.add_zero, nI_toInt, agN, asN, agLN, asLN, atvN, setvN, if_pos, if_neg]
    exact An_some ⟨is01_0 fun q => by have := q.1; omega, a1, a2⟩
  · rw [if_neg (nI_nle (by omega) (by omega))]
    refine An_bind (emptyM_t hn h25 a2) fun r hr => ?_
    rcases hr with ⟨e, hr⟩ | ⟨i, hi, e, h3, h4⟩
    · rw [e]
      simp (disch := omega) only [and_true, true_and, and_false, false_and, or_true, true_or, or_false, false_or, not_true_eq_false, not_false_eq_true, nm_at, Option.bind_some, if_true, if_false, ↓k_m1, ↓k_m2, ↓k_m3, ↓k_m5, ↓k_m9, ↓k_m10, ↓k_mno, k_0, k_1, k_2, k_3, k_4, k_5, k_6, k_7, k_8, k_9, k_10, k_11, k_12, k_13, k_14, k_15, k_16, k_17, k_18, k_19, k_20, k_21, k_22, k_23, k_24, k_25, k_26, k_27, k_28, k_29, k_30, k_31, k_32, k_36, k_48, k_50, k_57, k_58, k_59, k_64, k_97, k_99, k_100, k_101, k_102, k_104, k_105, k_107, k_108, k_109, k_110, k_111, k_114, k_115, k_116, k_119, k_122, k_128, k_255, k_500, k_1000, k_1023, k_10000, k_100000, nI_add, nI_mul, nI_sub, nI_sub0, nI_leI, nI_ltI, nI_eq, nM_lt, nM_le, nM_nlt, nM_nle, nM_ne, nM_ne', nM_eq, q_ii, q_ia, q_ij, q_it, q_aa, q_ai, q_aj, q_at, q_jj, q_ji, q_ja, q_jt, q_tt, q_ti, q_ta, q_tj, u_at, uL_at, Nat.zero_mul, Nat.mul_zero, Nat.one_mul, Nat.mul_one, Nat.zero_add, Nat.add_zero, nI_toInt, agN, asN, agLN, asLN, atvN, setvN, if_pos, if_neg]
      exact An_some ⟨is01_1 ⟨by omega, hr⟩, a1, a2⟩
    · rw [e]
      simp (disch := omega) only [and_true, true_and, and_false, false_and, or_true, true_or, or_false, false_or, not_true_eq_false, not_false_eq_true, nm_at, Option.bind_some, if_true, if_false, ↓k_m1, ↓k_m2, ↓k_m3, ↓k_m5, ↓k_m9, ↓k_m10, ↓k_mno, k_0, k_1, k_2, k_3, k_4, k_5, k_6, k_7, k_8, k_9, k_10, k_11, k_12, k_13, k_14, k_15, k_16, k_17, k_18, k_19, k_20, k_21, k_22, k_23, k_24, k_25, k_26, k_27, k_28, k_29, k_30, k_31, k_32, k_36, k_48, k_50, k_57, k_58, k_59, k_64, k_97, k_99, k_100, k_101, k_102, k_104, k_105, k_107, k_108, k_109, k_110, k_111, k_114, k_115, k_116, k_119, k_122, k_128, k_255, k_500, k_1000, k_1023, k_10000, k_100000, nI_add, nI_mul, nI_sub, nI_sub0, nI_leI, nI_ltI, nI_eq, nM_lt, nM_le, nM_nlt, nM_nle, nM_ne, nM_ne', nM_eq, q_ii, q_ia, q_ij, q_it, q_aa, q_ai, q_aj, q_at, q_jj, q_ji, q_ja, q_jt, q_tt, q_ti, q_ta, q_tj, u_at, uL_at, Nat.zero_mul, Nat.mul_zero, Nat.one_mul, Nat.mul_one, Nat.zero_add, Nat.add_zero, nI_toInt, agN, asN, agLN, asLN, atvN, setvN, if_pos, if_neg]
      exact An_some ⟨is01_0 fun q => h3 (q.2 i hi), a1, a2⟩
/-! ===== the calls ===== -/
theorem fr_view {s s' : SM} (hf : Fr [25] [24, 31, 26, 27, 28, 29] [] (mIs s 0 (nI 0)) s') : Fr scI scA scJ s s' := (fr0 s).tr (hf.wd (by decide) (by decide) (by decide))
theorem fr_jA {s s' : SM} (hf : Fr [] jA [] s s') : Fr scI scA scJ s s' := hf.wd (by decide) (by decide) (by decide)
theorem snd_d {t10 : S10} {W : Nat} {rw : Nat → Int32} (h : WR t10 W rw) {d : Nat} (hd : d < 2) : ∀ w, w < W → s10_sounds t10 (16 * d + w) = rw (4 * w + d) := by
  intro w hw
  obtain ⟨⟨e1, e2, -, -⟩, -⟩ := h.2.2 w hw
  obtain rfl | rfl : d = 0 ∨ d = 1 := by omega
  · rw [show 16 * 0 + w = w from by omega]; exact e1
  · exact e2
/-- both judge the paper alike -/
theorem views {t7 : S7} {t10 : S10} {t1 : S1} {tp : S4} {P W F f d : Nat} {ms : SM} (ve : S9) (hMR : MR t7 (mA ms 11)) (hWR : WR t10 W (mA ms 9)) (hFR : FR t1 F (mA ms 10)) (hf : f < F) (hP : mA ms 21 0 = nI P) (hLP : LR tp P 8 W (fun k => mA ms 21 (1 + k))) (hd : d < 2) : ∃ (L : Nat → Nat) (ok : Nat → Bool) (rh : Nat → Nat → Bool) (z : S9) (s' : SM), F_X9_judge t7 tp ve t1 t10 (nI f) (nI d) = some z ∧ VV L ok rh P P z ∧ F_X12_judgesPaper (mIs ms 0 (nI 0)) (nI f) (nI d) = some s' ∧ Fr scI scA scJ ms s' ∧ mI s' 25 = nI P ∧ (∀ j, j < 3 * P → mA s' 24 j = mA ms 21 (1 + j)) ∧ JJ L ok rh P s' := by
  obtain ⟨z, z1, z2⟩ := view_ok (v := ve) hMR hWR hFR hf hLP (by omega) (d := d) (by omega) (snd_d hWR hd)
  obtain ⟨s', m1, m2⟩ := jp_t (t7 := t7) (t10 := t10) (t1 := t1) (s := mIs ms 0 (nI 0)) hMR hWR hFR hf hP hLP.1 hLP.2.2.2 hd
  obtain ⟨m3, m4, m5, m6, -⟩ := m2
  exact ⟨_, _, _, z, s', z1, z2, m1, fr_view m3, m4, m5, m6⟩
theorem op_judged {st : SX} {ms : SM} (h : Inv st ms) (a1 a2 a3 a4 : Int32) : ∃ (r r2 : Int32) (st2 : SX) (ms2 : SM), X_judged st a1 a2 a3 a4 = some (r, st2) ∧ M_judged ms a1 a2 a3 a4 = some (r2, ms2) ∧ r = r2 ∧ Inv st2 ms2 := by
  obtain ⟨o, tx, ve, tr, me, gu, ch, row, i1, i2, t7, t10, t1, tp, ts, p7, p10, p1, pp, ps⟩ := st
  obtain ⟨W, F, P, S, T, ⟨hW, hF, hP, hS, hT⟩, hTX, hWR, hFR, hMR, hLP, hLS, hI1, hI2, hMo, hTr⟩ := (show IV o tx tr row i1 i2 t7 t10 t1 tp ts pp ps ms from h)
  have hP8 := hLP.1
  have hW16 := hWR.1
  have hF2 := hFR.1
  have hS6 := hLS.1
  have hs := hLP.2.2.1.1
  have bad : ∀ z, F_X11_judged o t7 ve t1 tp t10 a1 a2 a3 a4 = some (nM 1, z) → F_X12_judged ms a1 a2 a3 a4 = some (nM 1, mIs ms 0 0) → ∃ (r r2 : Int32) (st2 : SX) (ms2 : SM), X_judged (o, tx, ve, tr, me, gu, ch, row, i1, i2, t7, t10, t1, tp, ts, p7, p10, p1, pp, ps) a1 a2 a3 a4 = some (r, st2) ∧ M_judged ms a1 a2 a3 a4 = some (r2, ms2) ∧ r = r2 ∧ Inv st2 ms2 := fun z x1 x2 =>
    ⟨nM 1, nM 1, (o, tx, z, tr, me, gu, ch, row, i1, i2, t7, t10, t1, tp, ts, p7, p10, p1, pp, ps), mIs ms 0 0, by unfold X_judged; rw [x1]; rfl, by unfold M_judged; rw [x2]; rfl, rfl, IV.f0 h (fr0 ms)⟩
  have e43 : F_X12_in a4 0 3 = _ := in_rng (a := 0) (b := 3) (by omega) (by omega) a4
  by_cases c1 : (0 ≤ a1.toInt ∧ a1.toInt < F) ∧ 0 ≤ a2.toInt ∧ a2.toInt < 2
  · obtain ⟨f, hf, rfl⟩ := Lb.of c1.1
    obtain ⟨d, hd, rfl⟩ := Lb.of (n := 2) c1.2
    by_cases c2 : 0 ≤ a3.toInt ∧ a3.toInt < P
    · obtain ⟨i, hi, rfl⟩ := Lb.of c2
      obtain ⟨L, ok, rh, z, s', z1, z2, m1, m3, m4, m5, m6, m7⟩ := views ve hMR hWR hFR hf hP hLP hd
      obtain ⟨j1, j2, j3⟩ := m6 i hi
      obtain ⟨j4, j5⟩ := m7 i hi
      obtain ⟨v1, v2⟩ := z2.2.1 i hi
      obtain ⟨b, hb, b1, b2⟩ := binds_t z2 (i := i) (by omega)
      have hle := js_le L ok rh i
      have fin : ∀ r : Int32, F_X11_judged o t7 ve t1 tp t10 (nI f) (nI d) (nI i) a4 = some (r, z) → F_X12_judged ms (nI f) (nI d) (nI i) a4 = some (r, s') → ∃ (r r2 : Int32) (st2 : SX) (ms2 : SM), X_judged (o, tx, ve, tr, me, gu, ch, row, i1, i2, t7, t10, t1, tp, ts, p7, p10, p1, pp, ps) (nI f) (nI d) (nI i) a4 = some (r, st2) ∧ M_judged ms (nI f) (nI d) (nI i) a4 = some (r2, ms2) ∧ r = r2 ∧ Inv st2 ms2 := fun r x1 x2 =>
        ⟨r, r, (o, tx, z, tr, me, gu, ch, row, i1, i2, t7, t10, t1, tp, ts, p7, p10, p1, pp, ps), s', by unfold X_judged; rw [x1]; rfl, by unfold M_judged; rw [x2]; rfl, rfl, IV.f0 h m3⟩
      have hX : F_X11_judged o t7 ve t1 tp t10 (nI f) (nI d) (nI i) a4 = (if a4 = 0 then (F_X9_stands z (nI i)).bind fun q_4 => (if q_4 = 0 then some (0, z) else some (1, z)) else (if a4 = 1 then (F_X9_opens z (nI i)).bind fun q_5 => (if q_5 = 0 then some (0, z) else some (1, z)) else (if a4 = 2 then (F_X9_binds z (nI i)).bind fun q_6 => (if q_6 = 0 then some (0, z) else some (1, z)) else (if a4 = 3 then (F_X9_rhymed z (nI i)).bind fun q_7 => (if q_7 = 0 then some ((-9), z) else (F_X9_anchor z (nI i)).bind fun q_8 => some (q_8, z)) else some ((-1), z))))) := by
        unfold F_X11_judged F_X11_view
        rw [noView_t o t7 hFR.2.1 (by omega), if_pos c1, has_t tp (by omega) hs, if_pos c2]
        simp only [Option.bind_some]
        rw [z1]
        rfl
      have hM : (((0 : Nat) : Int) ≤ a4.toInt ∧ a4.toInt ≤ ((3 : Nat) : Int)) → F_X12_judged ms (nI f) (nI d) (nI i) a4 = (if a4 = 3 then (aget 9 (mA s' 29) (nI i)).bind fun e_9 => some (e_9, s') else (if a4 = 0 then (aget 9 (mA s' 26) (nI i)).bind fun e_8 => (if e_8 = 0 then some (0, s') else some (1, s')) else (if a4 = 1 then (aget 9 (mA s' 27) (nI i)).bind fun e_7 => (if e_7 = 0 then some (0, s') else some (1, s')) else (aget 9 (mA s' 28) (nI i)).bind fun e_6 => (if e_6 = 0 then some (0, s') else some (1, s'))))) := by
        intro c4
        unfold F_X12_judged
        simp only [nm_at, e43]
        rw [isForm_t (s := mIs ms 0 0) hF (by omega), if_pos c1, isLine_t (s := mIs ms 0 0) hP (by omega), if_pos c2]
        simp only [Option.bind_some, if10]
        rw [if_pos c4, show F_X12_judgesPaper (mIs ms 0 0) (nI f) (nI d) = some s' from m1]
        rfl
      by_cases c4 : ((0 : Nat) : Int) ≤ a4.toInt ∧ a4.toInt ≤ ((3 : Nat) : Int)
      · rw [hX, hM c4] at fin
        clear hX hM bad
        obtain ⟨k, hk, rfl⟩ := Lb.of (n := 4) (x := a4) (by omega)
        have hx : k = 0 ∨ k = 1 ∨ k = 2 ∨ k = 3 := by omega
        have ht : js L ok rh i = 0 ∨ js L ok rh i = 1 ∨ js L ok rh i = 2 := by omega
        rcases hx with rfl | rfl | rfl | rfl
        · rcases ht with ht | ht | ht
          · rw [ht] at v1 j1; exact fin (nI 0) (by unfold F_X9_stands; simp (disch := omega) only [at_total, v1, and_true, true_and, and_false, false_and, or_true, true_or, or_false, false_or, not_true_eq_false, not_false_eq_true, nm_at, Option.bind_some, if_true, if_false, ↓k_m1, ↓k_m2, ↓k_m3, ↓k_m5, ↓k_m9, ↓k_m10, ↓k_mno, k_0, k_1, k_2, k_3, k_4, k_5, k_6, k_7, k_8, k_9, k_10, k_11, k_12, k_13, k_14, k_15, k_16, k_17, k_18, k_19, k_20, k_21, k_22, k_23, k_24, k_25, k_26, k_27, k_28, k_29, k_30, k_31, k_32, k_36, k_48, k_50, k_57, k_58, k_59, k_64, k_97, k_99, k_100, k_101, k_102, k_104, k_105, k_107, k_108, k_109, k_110, k_111, k_114, k_115, k_116, k_119, k_122, k_128, k_255, k_500, k_1000, k_1023, k_10000, k_100000, nI_add, nI_mul, nI_sub, nI_sub0, nI_leI, nI_ltI, nI_eq, nM_lt, nM_le, nM_nlt, nM_nle, nM_ne, nM_ne', nM_eq, q_ii, q_ia, q_ij, q_it, q_aa, q_ai, q_aj, q_at, q_jj, q_ji, q_ja, q_jt, q_tt, q_ti, q_ta, q_tj, u_at, uL_at, Nat.zero_mul, Nat.mul_zero, Nat.one_mul, Nat.mul_one, Nat.zero_add, Nat.add_zero, nI_toInt, agN, asN, agLN, asLN, atvN, setvN, if_pos, if_neg]) (by simp (disch := omega) only [j1, and_true, true_and, and_false, false_and, or_true, true_or, or_false, false_or, not_true_eq_false, not_false_eq_true, nm_at, Option.bind_some, if_true, if_false, ↓k_m1, ↓k_m2, ↓k_m3, ↓k_m5, ↓k_m9, ↓k_m10, ↓k_mno, k_0, k_1, k_2, k_3, k_4, k_5, k_6, k_7, k_8, k_9, k_10, k_11, k_12, k_13, k_14, k_15, k_16, k_17, k_18, k_19, k_20, k_21, k_22, k_23, k_24, k_25, k_26, k_27, k_28, k_29, k_30, k_31, k_32, k_36, k_48, k_50, k_57, k_58, k_59, k_64, k_97, k_99, k_100, k_101, k_102, k_104, k_105, k_107, k_108, k_109, k_110, k_111, k_114, k_115, k_116, k_119, k_122, k_128, k_255, k_500, k_1000, k_1023, k_10000, k_100000, nI_add, nI_mul, nI_sub, nI_sub0, nI_leI, nI_ltI, nI_eq, nM_lt, nM_le, nM_nlt, nM_nle, nM_ne, nM_ne', nM_eq, q_ii, q_ia, q_ij, q_it, q_aa, q_ai, q_aj, q_at, q_jj, q_ji, q_ja, q_jt, q_tt, q_ti, q_ta, q_tj, u_at, uL_at, Nat.zero_mul, Nat.mul_zero, Nat.one_mul, Nat.mul_one, Nat.zero_add, Nat.add_zero, nI_toInt, agN, asN, agLN, asLN, atvN, setvN, if_pos, if_neg])
          · rw [ht] at v1 j1; exact fin (nI 1) (by unfold F_X9_stands; simp (disch := omega) only [at_total, v1, and_true, true_and, and_false, false_and, or_true, true_or, or_false, false_or, not_true_eq_false, not_false_eq_true, nm_at, Option.bind_some, if_true, if_false, ↓k_m1, ↓k_m2, ↓k_m3, ↓k_m5, ↓k_m9, ↓k_m10, ↓k_mno, k_0, k_1, k_2, k_3, k_4, k_5, k_6, k_7, k_8, k_9, k_10, k_11, k_12, k_13, k_14, k_15, k_16, k_17, k_18, k_19, k_20, k_21, k_22, k_23, k_24, k_25, k_26, k_27, k_28, k_29, k_30, k_31, k_32, k_36, k_48, k_50, k_57, k_58, k_59, k_64, k_97, k_99, k_100, k_101, k_102, k_104, k_105, k_107, k_108, k_109, k_110, k_111, k_114, k_115, k_116, k_119, k_122, k_128, k_255, k_500, k_1000, k_1023, k_10000, k_100000, nI_add, nI_mul, nI_sub, nI_sub0, nI_leI, nI_ltI, nI_eq, nM_lt, nM_le, nM_nlt, nM_nle, nM_ne, nM_ne', nM_eq, q_ii, q_ia, q_ij, q_it, q_aa, q_ai, q_aj, q_at, q_jj, q_ji, q_ja, q_jt, q_tt, q_ti, q_ta, q_tj, u_at, uL_at, Nat.zero_mul, Nat.mul_zero, Nat.one_mul, Nat.mul_one, Nat.zero_add, Nat.add_zero, nI_toInt, agN, asN, agLN, asLN, atvN, setvN, if_pos, if_neg]) (by simp (disch := omega) only [j1, and_true, true_and, and_false, false_and, or_true, true_or, or_false, false_or, not_true_eq_false, not_false_eq_true, nm_at, Option.bind_some, if_true, if_false, ↓k_m1, ↓k_m2, ↓k_m3, ↓k_m5, ↓k_m9, ↓k_m10, ↓k_mno, k_0, k_1, k_2, k_3, k_4, k_5, k_6, k_7, k_8, k_9, k_10, k_11, k_12, k_13, k_14, k_15, k_16, k_17, k_18, k_19, k_20, k_21, k_22, k_23, k_24, k_25, k_26, k_27, k_28, k_29, k_30, k_31, k_32, k_36, k_48, k_50, k_57, k_58, k_59, k_64, k_97, k_99, k_100, k_101, k_102, k_104, k_105, k_107, k_108, k_109, k_110, k_111, k_114, k_115, k_116, k_119, k_122, k_128, k_255, k_500, k_1000, k_1023, k_10000, k_100000, nI_add, nI_mul, nI_sub, nI_sub0, nI_leI, nI_ltI, nI_eq, nM_lt, nM_le, nM_nlt, nM_nle, nM_ne, nM_ne', nM_eq, q_ii, q_ia, q_ij, q_it, q_aa, q_ai, q_aj, q_at, q_jj, q_ji, q_ja, q_jt, q_tt, q_ti, q_ta, q_tj, u_at, uL_at, Nat.zero_mul, Nat.mul_zero, Nat.one_mul, Nat.mul_one, Nat.zero_add, Nat.add_zero, nI_toInt, agN, asN, agLN, asLN, atvN, setvN, if_pos, if_neg])
          · rw [ht] at v1 j1; exact fin (nI 1) (by unfold F_X9_stands; simp (disch := omega) only [at_total, v1, and_true, true_and, and_false, false_and, or_true, true_or, or_false, false_or, not_true_eq_false, not_false_eq_true, nm_at, Option.bind_some, if_true, if_false, ↓k_m1, ↓k_m2, ↓k_m3, ↓k_m5, ↓k_m9, ↓k_m10, ↓k_mno, k_0, k_1, k_2, k_3, k_4, k_5, k_6, k_7, k_8, k_9, k_10, k_11, k_12, k_13, k_14, k_15, k_16, k_17, k_18, k_19, k_20, k_21, k_22, k_23, k_24, k_25, k_26, k_27, k_28, k_29, k_30, k_31, k_32, k_36, k_48, k_50, k_57, k_58, k_59, k_64, k_97, k_99, k_100, k_101, k_102, k_104, k_105, k_107, k_108, k_109, k_110, k_111, k_114, k_115, k_116, k_119, k_122, k_128, k_255, k_500, k_1000, k_1023, k_10000, k_100000, nI_add, nI_mul, nI_sub, nI_sub0, nI_leI, nI_ltI, nI_eq, nM_lt, nM_le, nM_nlt, nM_nle, nM_ne, nM_ne', nM_eq, q_ii, q_ia, q_ij, q_it, q_aa, q_ai, q_aj, q_at, q_jj, q_ji, q_ja, q_jt, q_tt, q_ti, q_ta, q_tj, u_at, uL_at, Nat.zero_mul, Nat.mul_zero, Nat.one_mul, Nat.mul_one, Nat.zero_add, Nat.add_zero, nI_toInt, agN, asN, agLN, asLN, atvN, setvN, if_pos, if_neg]) (by simp (disch := omega) only [j1, and_true, true_and, and_false, false_and, or_true, true_or, or_false, false_or, not_true_eq_false, not_false_eq_true, nm_at, Option.bind_some, if_true, if_false, ↓k_m1, ↓k_m2, ↓k_m3, ↓k_m5, ↓k_m9, ↓k_m10, ↓k_mno, k_0, k_1, k_2, k_3, k_4, k_5, k_6, k_7, k_8, k_9, k_10, k_11, k_12, k_13, k_14, k_15, k_16, k_17, k_18, k_19, k_20, k_21, k_22, k_23, k_24, k_25, k_26, k_27, k_28, k_29, k_30, k_31, k_32, k_36, k_48, k_50, k_57, k_58, k_59, k_64, k_97, k_99, k_100, k_101, k_102, k_104, k_105, k_107, k_108, k_109, k_110, k_111, k_114, k_115, k_116, k_119, k_122, k_128, k_255, k_500, k_1000, k_1023, k_10000, k_100000, nI_add, nI_mul, nI_sub, nI_sub0, nI_leI, nI_ltI, nI_eq, nM_lt, nM_le, nM_nlt, nM_nle, nM_ne, nM_ne', nM_eq, q_ii, q_ia, q_ij, q_it, q_aa, q_ai, q_aj, q_at, q_jj, q_ji, q_ja, q_jt, q_tt, q_ti, q_ta, q_tj, u_at, uL_at, Nat.zero_mul, Nat.mul_zero, Nat.one_mul, Nat.mul_one, Nat.zero_add, Nat.add_zero, nI_toInt, agN, asN, agLN, asLN, atvN, setvN, if_pos, if_neg])
        · rcases ht with ht | ht | ht
          · rw [ht] at v1 j2; exact fin (nI 0) (by unfold F_X9_opens; simp (disch := omega) only [at_total, v1, and_true, true_and, and_false, false_and, or_true, true_or, or_false, false_or, not_true_eq_false, not_false_eq_true, nm_at, Option.bind_some, if_true, if_false, ↓k_m1, ↓k_m2, ↓k_m3, ↓k_m5, ↓k_m9, ↓k_m10, ↓k_mno, k_0, k_1, k_2, k_3, k_4, k_5, k_6, k_7, k_8, k_9, k_10, k_11, k_12, k_13, k_14, k_15, k_16, k_17, k_18, k_19, k_20, k_21, k_22, k_23, k_24, k_25, k_26, k_27, k_28, k_29, k_30, k_31, k_32, k_36, k_48, k_50, k_57, k_58, k_59, k_64, k_97, k_99, k_100, k_101, k_102, k_104, k_105, k_107, k_108, k_109, k_110, k_111, k_114, k_115, k_116, k_119, k_122, k_128, k_255, k_500, k_1000, k_1023, k_10000, k_100000, nI_add, nI_mul, nI_sub, nI_sub0, nI_leI, nI_ltI, nI_eq, nM_lt, nM_le, nM_nlt, nM_nle, nM_ne, nM_ne', nM_eq, q_ii, q_ia, q_ij, q_it, q_aa, q_ai, q_aj, q_at, q_jj, q_ji, q_ja, q_jt, q_tt, q_ti, q_ta, q_tj, u_at, uL_at, Nat.zero_mul, Nat.mul_zero, Nat.one_mul, Nat.mul_one, Nat.zero_add, Nat.add_zero, nI_toInt, agN, asN, agLN, asLN, atvN, setvN, if_pos, if_neg]) (by simp (disch := omega) only [j2, and_true, true_and, and_false, false_and, or_true, true_or, or_false, false_or, not_true_eq_false, not_false_eq_true, nm_at, Option.bind_some, if_true, if_false, ↓k_m1, ↓k_m2, ↓k_m3, ↓k_m5, ↓k_m9, ↓k_m10, ↓k_mno, k_0, k_1, k_2, k_3, k_4, k_5, k_6, k_7, k_8, k_9, k_10, k_11, k_12, k_13, k_14, k_15, k_16, k_17, k_18, k_19, k_20, k_21, k_22, k_23, k_24, k_25, k_26, k_27, k_28, k_29, k_30, k_31, k_32, k_36, k_48, k_50, k_57, k_58, k_59, k_64, k_97, k_99, k_100, k_101, k_102, k_104, k_105, k_107, k_108, k_109, k_110, k_111, k_114, k_115, k_116, k_119, k_122, k_128, k_255, k_500, k_1000, k_1023, k_10000, k_100000, nI_add, nI_mul, nI_sub, nI_sub0, nI_leI, nI_ltI, nI_eq, nM_lt, nM_le, nM_nlt, nM_nle, nM_ne, nM_ne', nM_eq, q_ii, q_ia, q_ij, q_it, q_aa, q_ai, q_aj, q_at, q_jj, q_ji, q_ja, q_jt, q_tt, q_ti, q_ta, q_tj, u_at, uL_at, Nat.zero_mul, Nat.mul_zero, Nat.one_mul, Nat.mul_one, Nat.zero_add, Nat.add_zero, nI_toInt, agN, asN, agLN, asLN, atvN, setvN, if_pos, if_neg])
          · rw [ht] at v1 j2; exact fin (nI 1) (by unfold F_X9_opens; simp (disch := omega) only [at_total, v1, and_true, true_and, and_false, false_and, or_true, true_or, or_false, false_or, not_true_eq_false, not_false_eq_true, nm_at, Option.bind_some, if_true, if_false, ↓k_m1, ↓k_m2, ↓k_m3, ↓k_m5, ↓k_m9, ↓k_m10, ↓k_mno, k_0, k_1, k_2, k_3, k_4, k_5, k_6, k_7, k_8, k_9, k_10, k_11, k_12, k_13, k_14, k_15, k_16, k_17, k_18, k_19, k_20, k_21, k_22, k_23, k_24, k_25, k_26, k_27, k_28, k_29, k_30, k_31, k_32, k_36, k_48, k_50, k_57, k_58, k_59, k_64, k_97, k_99, k_100, k_101, k_102, k_104, k_105, k_107, k_108, k_109, k_110, k_111, k_114, k_115, k_116, k_119, k_122, k_128, k_255, k_500, k_1000, k_1023, k_10000, k_100000, nI_add, nI_mul, nI_sub, nI_sub0, nI_leI, nI_ltI, nI_eq, nM_lt, nM_le, nM_nlt, nM_nle, nM_ne, nM_ne', nM_eq, q_ii, q_ia, q_ij, q_it, q_aa, q_ai, q_aj, q_at, q_jj, q_ji, q_ja, q_jt, q_tt, q_ti, q_ta, q_tj, u_at, uL_at, Nat.zero_mul, Nat.mul_zero, Nat.one_mul, Nat.mul_one, Nat.zero_add, Nat.add_zero, nI_toInt, agN, asN, agLN, asLN, atvN, setvN, if_pos, if_neg]) (by simp (disch := omega) only [j2, and_true, true_and, and_false, false_and, or_true, true_or, or_false, false_or, not_true_eq_false, not_false_eq_true, nm_at, Option.bind_some, if_true, if_false, ↓k_m1, ↓k_m2, ↓k_m3, ↓k_m5, ↓k_m9, ↓k_m10, ↓k_mno, k_0, k_1, k_2, k_3, k_4, k_5, k_6, k_7, k_8, k_9, k_10, k_11, k_12, k_13, k_14, k_15, k_16, k_17, k_18, k_19, k_20, k_21, k_22, k_23, k_24, k_25, k_26, k_27, k_28, k_29, k_30, k_31, k_32, k_36, k_48, k_50, k_57, k_58, k_59, k_64, k_97, k_99, k_100, k_101, k_102, k_104, k_105, k_107, k_108, k_109, k_110, k_111, k_114, k_115, k_116, k_119, k_122, k_128, k_255, k_500, k_1000, k_1023, k_10000, k_100000, nI_add, nI_mul, nI_sub, nI_sub0, nI_leI, nI_ltI, nI_eq, nM_lt, nM_le, nM_nlt, nM_nle, nM_ne, nM_ne', nM_eq, q_ii, q_ia, q_ij, q_it, q_aa, q_ai, q_aj, q_at, q_jj, q_ji, q_ja, q_jt, q_tt, q_ti, q_ta, q_tj, u_at, uL_at, Nat.zero_mul, Nat.mul_zero, Nat.one_mul, Nat.mul_one, Nat.zero_add, Nat.add_zero, nI_toInt, agN, asN, agLN, asLN, atvN, setvN, if_pos, if_neg])
          · rw [ht] at v1 j2; exact fin (nI 0) (by unfold F_X9_opens; simp (disch := omega) only [at_total, v1, and_true, true_and, and_false, false_and, or_true, true_or, or_false, false_or, not_true_eq_false, not_false_eq_true, nm_at, Option.bind_some, if_true, if_false, ↓k_m1, ↓k_m2, ↓k_m3, ↓k_m5, ↓k_m9, ↓k_m10, ↓k_mno, k_0, k_1, k_2, k_3, k_4, k_5, k_6, k_7, k_8, k_9, k_10, k_11, k_12, k_13, k_14, k_15, k_16, k_17, k_18, k_19, k_20, k_21, k_22, k_23, k_24, k_25, k_26, k_27, k_28, k_29, k_30, k_31, k_32, k_36, k_48, k_50, k_57, k_58, k_59, k_64, k_97, k_99, k_100, k_101, k_102, k_104, k_105, k_107, k_108, k_109, k_110, k_111, k_114, k_115, k_116, k_119, k_122, k_128, k_255, k_500, k_1000, k_1023, k_10000, k_100000, nI_add, nI_mul, nI_sub, nI_sub0, nI_leI, nI_ltI, nI_eq, nM_lt, nM_le, nM_nlt, nM_nle, nM_ne, nM_ne', nM_eq, q_ii, q_ia, q_ij, q_it, q_aa, q_ai, q_aj, q_at, q_jj, q_ji, q_ja, q_jt, q_tt, q_ti, q_ta, q_tj, u_at, uL_at, Nat.zero_mul, Nat.mul_zero, Nat.one_mul, Nat.mul_one, Nat.zero_add, Nat.add_zero, nI_toInt, agN, asN, agLN, asLN, atvN, setvN, if_pos, if_neg]) (by simp (disch := omega) only [j2, and_true, true_and, and_false, false_and, or_true, true_or, or_false, false_or, not_true_eq_false, not_false_eq_true, nm_at, Option.bind_some, if_true, if_false, ↓k_m1, ↓k_m2, ↓k_m3, ↓k_m5, ↓k_m9, ↓k_m10, ↓k_mno, k_0, k_1, k_2, k_3, k_4, k_5, k_6, k_7, k_8, k_9, k_10, k_11, k_12, k_13, k_14, k_15, k_16, k_17, k_18, k_19, k_20, k_21, k_22, k_23, k_24, k_25, k_26, k_27, k_28, k_29, k_30, k_31, k_32, k_36, k_48, k_50, k_57, k_58, k_59, k_64, k_97, k_99, k_100, k_101, k_102, k_104, k_105, k_107, k_108, k_109, k_110, k_111, k_114, k_115, k_116, k_119, k_122, k_128, k_255, k_500, k_1000, k_1023, k_10000, k_100000, nI_add, nI_mul, nI_sub, nI_sub0, nI_leI, nI_ltI, nI_eq, nM_lt, nM_le, nM_nlt, nM_nle, nM_ne, nM_ne', nM_eq, q_ii, q_ia, q_ij, q_it, q_aa, q_ai, q_aj, q_at, q_jj, q_ji, q_ja, q_jt, q_tt, q_ti, q_ta, q_tj, u_at, uL_at, Nat.zero_mul, Nat.mul_zero, Nat.one_mul, Nat.mul_one, Nat.zero_add, Nat.add_zero, nI_toInt, agN, asN, agLN, asLN, atvN, setvN, if_pos, if_neg])
        · obtain rfl | rfl : b = 0 ∨ b = 1 := by omega
          · have e28 : mA s' 28 i = nI 0 := by
              rcases j4 with j4 | j4
              · exact j4
              · exact absurd (b2.mpr (j5.mp j4)) (by omega)
            exact fin (nI 0) (by simp (disch := omega) only [b1, and_true, true_and, and_false, false_and, or_true, true_or, or_false, false_or, not_true_eq_false, not_false_eq_true, nm_at, Option.bind_some, if_true, if_false, ↓k_m1, ↓k_m2, ↓k_m3, ↓k_m5, ↓k_m9, ↓k_m10, ↓k_mno, k_0, k_1, k_2, k_3, k_4, k_5, k_6, k_7, k_8, k_9, k_10, k_11, k_12, k_13, k_14, k_15, k_16, k_17, k_18, k_19, k_20, k_21, k_22, k_23, k_24, k_25, k_26, k_27, k_28, k_29, k_30, k_31, k_32, k_36, k_48, k_50, k_57, k_58, k_59, k_64, k_97, k_99, k_100, k_101, k_102, k_104, k_105, k_107, k_108, k_109, k_110, k_111, k_114, k_115, k_116, k_119, k_122, k_128, k_255, k_500, k_1000, k_1023, k_10000, k_100000, nI_add, nI_mul, nI_sub, nI_sub0, nI_leI, nI_ltI, nI_eq, nM_lt, nM_le, nM_nlt, nM_nle, nM_ne, nM_ne', nM_eq, q_ii, q_ia, q_ij, q_it, q_aa, q_ai, q_aj, q_at, q_jj, q_ji, q_ja, q_jt, q_tt, q_ti, q_ta, q_tj, u_at, uL_at, Nat.zero_mul, Nat.mul_zero, Nat.one_mul, Nat.mul_one, Nat.zero_add, Nat.add_zero, nI_toInt, agN, asN, agLN, asLN, atvN, setvN, if_pos, if_neg]) (by simp (disch := omega) only [e28, and_true, true_and, and_false, false_and, or_true, true_or, or_false, false_or, not_true_eq_false, not_false_eq_true, nm_at, Option.bind_some, if_true, if_false, ↓k_m1, ↓k_m2, ↓k_m3, ↓k_m5, ↓k_m9, ↓k_m10, ↓k_mno, k_0, k_1, k_2, k_3, k_4, k_5, k_6, k_7, k_8, k_9, k_10, k_11, k_12, k_13, k_14, k_15, k_16, k_17, k_18, k_19, k_20, k_21, k_22, k_23, k_24, k_25, k_26, k_27, k_28, k_29, k_30, k_31, k_32, k_36, k_48, k_50, k_57, k_58, k_59, k_64, k_97, k_99, k_100, k_101, k_102, k_104, k_105, k_107, k_108, k_109, k_110, k_111, k_114, k_115, k_116, k_119, k_122, k_128, k_255, k_500, k_1000, k_1023, k_10000, k_100000, nI_add, nI_mul, nI_sub, nI_sub0, nI_leI, nI_ltI, nI_eq, nM_lt, nM_le, nM_nlt, nM_nle, nM_ne, nM_ne', nM_eq, q_ii, q_ia, q_ij, q_it, q_aa, q_ai, q_aj, q_at, q_jj, q_ji, q_ja, q_jt, q_tt, q_ti, q_ta, q_tj, u_at, uL_at, Nat.zero_mul, Nat.mul_zero, Nat.one_mul, Nat.mul_one, Nat.zero_add, Nat.add_zero, nI_toInt, agN, asN, agLN, asLN, atvN, setvN, if_pos, if_neg])
          · have e28 : mA s' 28 i = nI 1 := j5.mpr (b2.mp rfl)
            exact fin (nI 1) (by simp (disch := omega) only [b1, and_true, true_and, and_false, false_and, or_true, true_or, or_false, false_or, not_true_eq_false, not_false_eq_true, nm_at, Option.bind_some, if_true, if_false, ↓k_m1, ↓k_m2, ↓k_m3, ↓k_m5, ↓k_m9, ↓k_m10, ↓k_mno, k_0, k_1, k_2, k_3, k_4, k_5, k_6, k_7, k_8, k_9, k_10, k_11, k_12, k_13, k_14, k_15, k_16, k_17, k_18, k_19, k_20, k_21, k_22, k_23, k_24, k_25, k_26, k_27, k_28, k_29, k_30, k_31, k_32, k_36, k_48, k_50, k_57, k_58, k_59, k_64, k_97, k_99, k_100, k_101, k_102, k_104, k_105, k_107, k_108, k_109, k_110, k_111, k_114, k_115, k_116, k_119, k_122, k_128, k_255, k_500, k_1000, k_1023, k_10000, k_100000, nI_add, nI_mul, nI_sub, nI_sub0, nI_leI, nI_ltI, nI_eq, nM_lt, nM_le, nM_nlt, nM_nle, nM_ne, nM_ne', nM_eq, q_ii, q_ia, q_ij, q_it, q_aa, q_ai, q_aj, q_at, q_jj, q_ji, q_ja, q_jt, q_tt, q_ti, q_ta, q_tj, u_at, uL_at, Nat.zero_mul, Nat.mul_zero, Nat.one_mul, Nat.mul_one, Nat.zero_add, Nat.add_zero, nI_toInt, agN, asN, agLN, asLN, atvN, setvN, if_pos, if_neg]) (by simp (disch := omega) only [e28, and_true, true_and, and_false, false_and, or_true, true_or, or_false, false_or, not_true_eq_false, not_false_eq_true, nm_at, Option.bind_some, if_true, if_false, ↓k_m1, ↓k_m2, ↓k_m3, ↓k_m5, ↓k_m9, ↓k_m10, ↓k_mno, k_0, k_1, k_2, k_3, k_4, k_5, k_6, k_7, k_8, k_9, k_10, k_11, k_12, k_13, k_14, k_15, k_16, k_17, k_18, k_19, k_20, k_21, k_22, k_23, k_24, k_25, k_26, k_27, k_28, k_29, k_30, k_31, k_32, k_36, k_48, k_50, k_57, k_58, k_59, k_64, k_97, k_99, k_100, k_101, k_102, k_104, k_105, k_107, k_108, k_109, k_110, k_111, k_114, k_115, k_116, k_119, k_122, k_128, k_255, k_500, k_1000, k_1023, k_10000, k_100000, nI_add, nI_mul, nI_sub, nI_sub0, nI_leI, nI_ltI, nI_eq, nM_lt, nM_le, nM_nlt, nM_nle, nM_ne, nM_ne', nM_eq, q_ii, q_ia, q_ij, q_it, q_aa, q_ai, q_aj, q_at, q_jj, q_ji, q_ja, q_jt, q_tt, q_ti, q_ta, q_tj, u_at, uL_at, Nat.zero_mul, Nat.mul_zero, Nat.one_mul, Nat.mul_one, Nat.zero_add, Nat.add_zero, nI_toInt, agN, asN, agLN, asLN, atvN, setvN, if_pos, if_neg])
        · rcases ht with ht | ht | ht
          · rw [ht] at v1 j3; exact fin (nM 9) (by unfold F_X9_rhymed; simp (disch := omega) only [at_total, v1, and_true, true_and, and_false, false_and, or_true, true_or, or_false, false_or, not_true_eq_false, not_false_eq_true, nm_at, Option.bind_some, if_true, if_false, ↓k_m1, ↓k_m2, ↓k_m3, ↓k_m5, ↓k_m9, ↓k_m10, ↓k_mno, k_0, k_1, k_2, k_3, k_4, k_5, k_6, k_7, k_8, k_9, k_10, k_11, k_12, k_13, k_14, k_15, k_16, k_17, k_18, k_19, k_20, k_21, k_22, k_23, k_24, k_25, k_26, k_27, k_28, k_29, k_30, k_31, k_32, k_36, k_48, k_50, k_57, k_58, k_59, k_64, k_97, k_99, k_100, k_101, k_102, k_104, k_105, k_107, k_108, k_109, k_110, k_111, k_114, k_115, k_116, k_119, k_122, k_128, k_255, k_500, k_1000, k_1023, k_10000, k_100000, nI_add, nI_mul, nI_sub, nI_sub0, nI_leI, nI_ltI, nI_eq, nM_lt, nM_le, nM_nlt, nM_nle, nM_ne, nM_ne', nM_eq, q_ii, q_ia, q_ij, q_it, q_aa, q_ai, q_aj, q_at, q_jj, q_ji, q_ja, q_jt, q_tt, q_ti, q_ta, q_tj, u_at, uL_at, Nat.zero_mul, Nat.mul_zero, Nat.one_mul, Nat.mul_one, Nat.zero_add, Nat.add_zero, nI_toInt, agN, asN, agLN, asLN, atvN, setvN, if_pos, if_neg]) (by simp (disch := omega) only [j3, and_true, true_and, and_false, false_and, or_true, true_or, or_false, false_or, not_true_eq_false, not_false_eq_true, nm_at, Option.bind_some, if_true, if_false, ↓k_m1, ↓k_m2, ↓k_m3, ↓k_m5, ↓k_m9, ↓k_m10, ↓k_mno, k_0, k_1, k_2, k_3, k_4, k_5, k_6, k_7, k_8, k_9, k_10, k_11, k_12, k_13, k_14, k_15, k_16, k_17, k_18, k_19, k_20, k_21, k_22, k_23, k_24, k_25, k_26, k_27, k_28, k_29, k_30, k_31, k_32, k_36, k_48, k_50, k_57, k_58, k_59, k_64, k_97, k_99, k_100, k_101, k_102, k_104, k_105, k_107, k_108, k_109, k_110, k_111, k_114, k_115, k_116, k_119, k_122, k_128, k_255, k_500, k_1000, k_1023, k_10000, k_100000, nI_add, nI_mul, nI_sub, nI_sub0, nI_leI, nI_ltI, nI_eq, nM_lt, nM_le, nM_nlt, nM_nle, nM_ne, nM_ne', nM_eq, q_ii, q_ia, q_ij, q_it, q_aa, q_ai, q_aj, q_at, q_jj, q_ji, q_ja, q_jt, q_tt, q_ti, q_ta, q_tj, u_at, uL_at, Nat.zero_mul, Nat.mul_zero, Nat.one_mul, Nat.mul_one, Nat.zero_add, Nat.add_zero, nI_toInt, agN, asN, agLN, asLN, atvN, setvN, if_pos, if_neg])
          · rw [ht] at v1 j3; exact fin (nM 9) (by unfold F_X9_rhymed; simp (disch := omega) only [at_total, v1, and_true, true_and, and_false, false_and, or_true, true_or, or_false, false_or, not_true_eq_false, not_false_eq_true, nm_at, Option.bind_some, if_true, if_false, ↓k_m1, ↓k_m2, ↓k_m3, ↓k_m5, ↓k_m9, ↓k_m10, ↓k_mno, k_0, k_1, k_2, k_3, k_4, k_5, k_6, k_7, k_8, k_9, k_10, k_11, k_12, k_13, k_14, k_15, k_16, k_17, k_18, k_19, k_20, k_21, k_22, k_23, k_24, k_25, k_26, k_27, k_28, k_29, k_30, k_31, k_32, k_36, k_48, k_50, k_57, k_58, k_59, k_64, k_97, k_99, k_100, k_101, k_102, k_104, k_105, k_107, k_108, k_109, k_110, k_111, k_114, k_115, k_116, k_119, k_122, k_128, k_255, k_500, k_1000, k_1023, k_10000, k_100000, nI_add, nI_mul, nI_sub, nI_sub0, nI_leI, nI_ltI, nI_eq, nM_lt, nM_le, nM_nlt, nM_nle, nM_ne, nM_ne', nM_eq, q_ii, q_ia, q_ij, q_it, q_aa, q_ai, q_aj, q_at, q_jj, q_ji, q_ja, q_jt, q_tt, q_ti, q_ta, q_tj, u_at, uL_at, Nat.zero_mul, Nat.mul_zero, Nat.one_mul, Nat.mul_one, Nat.zero_add, Nat.add_zero, nI_toInt, agN, asN, agLN, asLN, atvN, setvN, if_pos, if_neg]) (by simp (disch := omega) only [j3, and_true, true_and, and_false, false_and, or_true, true_or, or_false, false_or, not_true_eq_false, not_false_eq_true, nm_at, Option.bind_some, if_true, if_false, ↓k_m1, ↓k_m2, ↓k_m3, ↓k_m5, ↓k_m9, ↓k_m10, ↓k_mno, k_0, k_1, k_2, k_3, k_4, k_5, k_6, k_7, k_8, k_9, k_10, k_11, k_12, k_13, k_14, k_15, k_16, k_17, k_18, k_19, k_20, k_21, k_22, k_23, k_24, k_25, k_26, k_27, k_28, k_29, k_30, k_31, k_32, k_36, k_48, k_50, k_57, k_58, k_59, k_64, k_97, k_99, k_100, k_101, k_102, k_104, k_105, k_107, k_108, k_109, k_110, k_111, k_114, k_115, k_116, k_119, k_122, k_128, k_255, k_500, k_1000, k_1023, k_10000, k_100000, nI_add, nI_mul, nI_sub, nI_sub0, nI_leI, nI_ltI, nI_eq, nM_lt, nM_le, nM_nlt, nM_nle, nM_ne, nM_ne', nM_eq, q_ii, q_ia, q_ij, q_it, q_aa, q_ai, q_aj, q_at, q_jj, q_ji, q_ja, q_jt, q_tt, q_ti, q_ta, q_tj, u_at, uL_at, Nat.zero_mul, Nat.mul_zero, Nat.one_mul, Nat.mul_one, Nat.zero_add, Nat.add_zero, nI_toInt, agN, asN, agLN, asLN, atvN, setvN, if_pos, if_neg])
          · rw [if_pos ht] at v2 j3
            rw [ht] at v1
            exact fin (nI (ja L ok rh i - 1)) (by unfold F_X9_rhymed F_X9_anchor; simp (disch := omega) only [at_total, v1, v2, and_true, true_and, and_false, false_and, or_true, true_or, or_false, false_or, not_true_eq_false, not_false_eq_true, nm_at, Option.bind_some, if_true, if_false, ↓k_m1, ↓k_m2, ↓k_m3, ↓k_m5, ↓k_m9, ↓k_m10, ↓k_mno, k_0, k_1, k_2, k_3, k_4, k_5, k_6, k_7, k_8, k_9, k_10, k_11, k_12, k_13, k_14, k_15, k_16, k_17, k_18, k_19, k_20, k_21, k_22, k_23, k_24, k_25, k_26, k_27, k_28, k_29, k_30, k_31, k_32, k_36, k_48, k_50, k_57, k_58, k_59, k_64, k_97, k_99, k_100, k_101, k_102, k_104, k_105, k_107, k_108, k_109, k_110, k_111, k_114, k_115, k_116, k_119, k_122, k_128, k_255, k_500, k_1000, k_1023, k_10000, k_100000, nI_add, nI_mul, nI_sub, nI_sub0, nI_leI, nI_ltI, nI_eq, nM_lt, nM_le, nM_nlt, nM_nle, nM_ne, nM_ne', nM_eq, q_ii, q_ia, q_ij, q_it, q_aa, q_ai, q_aj, q_at, q_jj, q_ji, q_ja, q_jt, q_tt, q_ti, q_ta, q_tj, u_at, uL_at, Nat.zero_mul, Nat.mul_zero, Nat.one_mul, Nat.mul_one, Nat.zero_add, Nat.add_zero, nI_toInt, agN, asN, agLN, asLN, atvN, setvN, if_pos, if_neg]) (by simp (disch := omega) only [j3, and_true, true_and, and_false, false_and, or_true, true_or, or_false, false_or, not_true_eq_false, not_false_eq_true, nm_at, Option.bind_some, if_true, if_false, ↓k_m1, ↓k_m2, ↓k_m3, ↓k_m5, ↓k_m9, ↓k_m10, ↓k_mno, k_0, k_1, k_2, k_3, k_4, k_5, k_6, k_7, k_8, k_9, k_10, k_11, k_12, k_13, k_14, k_15, k_16, k_17, k_18, k_19, k_20, k_21, k_22, k_23, k_24, k_25, k_26, k_27, k_28, k_29, k_30, k_31, k_32, k_36, k_48, k_50, k_57, k_58, k_59, k_64, k_97, k_99, k_100, k_101, k_102, k_104, k_105, k_107, k_108, k_109, k_110, k_111, k_114, k_115, k_116, k_119, k_122, k_128, k_255, k_500, k_1000, k_1023, k_10000, k_100000, nI_add, nI_mul, nI_sub, nI_sub0, nI_leI, nI_ltI, nI_eq, nM_lt, nM_le, nM_nlt, nM_nle, nM_ne, nM_ne', nM_eq, q_ii, q_ia, q_ij, q_it, q_aa, q_ai, q_aj, q_at, q_jj, q_ji, q_ja, q_jt, q_tt, q_ti, q_ta, q_tj, u_at, uL_at, Nat.zero_mul, Nat.mul_zero, Nat.one_mul, Nat.mul_one, Nat.zero_add, Nat.add_zero, nI_toInt, agN, asN, agLN, asLN, atvN, setvN, if_pos, if_neg])
      · refine bad z ?_ ?_
        · rw [hX]
          have hne : ∀ k, k < 4 → ¬ a4 = nI k := fun k hk e => c4 (by rw [e, nI_toInt (by omega)]; omega)
          simp (disch := omega) only [hne 0, hne 1, hne 2, hne 3, and_true, true_and, and_false, false_and, or_true, true_or, or_false, false_or, not_true_eq_false, not_false_eq_true, nm_at, Option.bind_some, if_true, if_false, ↓k_m1, ↓k_m2, ↓k_m3, ↓k_m5, ↓k_m9, ↓k_m10, ↓k_mno, k_0, k_1, k_2, k_3, k_4, k_5, k_6, k_7, k_8, k_9, k_10, k_11, k_12, k_13, k_14, k_15, k_16, k_17, k_18, k_19, k_20, k_21, k_22, k_23, k_24, k_25, k_26, k_27, k_28, k_29, k_30, k_31, k_32, k_36, k_48, k_50, k_57, k_58, k_59, k_64, k_97, k_99, k_100, k_101, k_102, k_104, k_105, k_107, k_108, k_109, k_110, k_111, k_114, k_115, k_116, k_119, k_122, k_128, k_255, k_500, k_1000, k_1023, k_10000, k_100000, nI_add, nI_mul, nI_sub, nI_sub0, nI_leI, nI_ltI, nI_eq, nM_lt, nM_le, nM_nlt, nM_nle, nM_ne, nM_ne', nM_eq, q_ii, q_ia, q_ij, q_it, q_aa, q_ai, q_aj, q_at, q_jj, q_ji, q_ja, q_jt, q_tt, q_ti, q_ta, q_tj, u_at, uL_at, Nat.zero_mul, Nat.mul_zero, Nat.one_mul, Nat.mul_one, Nat.zero_add, Nat.add_zero, nI_toInt, agN, asN, agLN, asLN, atvN, setvN, if_pos, if_neg]
        · unfold F_X12_judged
          simp only [nm_at, e43]
          rw [isForm_t (s := mIs ms 0 0) hF (by omega), if_pos c1, isLine_t (s := mIs ms 0 0) hP (by omega), if_pos c2]
          simp only [Option.bind_some, if10]
          rw [if_neg c4]
          rfl
    · refine bad ve ?_ ?_
      · unfold F_X11_judged
        rw [noView_t o t7 hFR.2.1 (by omega), if_pos c1, has_t tp (by omega) hs, if_neg c2]
        rfl
      · unfold F_X12_judged
        simp only [nm_at]
        rw [isForm_t (s := mIs ms 0 0) hF (by omega), if_pos c1, isLine_t (s := mIs ms 0 0) hP (by omega), if_neg c2]
        rfl
  · refine bad ve ?_ ?_
    · unfold F_X11_judged
      rw [noView_t o t7 hFR.2.1 (by omega), if_neg c1]
      rfl
    · unfold F_X12_judged
      simp only [nm_at]
      rw [isForm_t (s := mIs ms 0 0) hF (by omega), if_neg c1]
      rfl
theorem op_law {st : SX} {ms : SM} (h : Inv st ms) (a1 a2 : Int32) : ∃ (r r2 : Int32) (st2 : SX) (ms2 : SM), X_law st a1 a2 = some (r, st2) ∧ M_law ms a1 a2 = some (r2, ms2) ∧ r = r2 ∧ Inv st2 ms2 := by
  obtain ⟨o, tx, ve, tr, me, gu, ch, row, i1, i2, t7, t10, t1, tp, ts, p7, p10, p1, pp, ps⟩ := st
  obtain ⟨W, F, P, S, T, ⟨hW, hF, hP, hS, hT⟩, hTX, hWR, hFR, hMR, hLP, hLS, hI1, hI2, hMo, hTr⟩ := (show IV o tx tr row i1 i2 t7 t10 t1 tp ts pp ps ms from h)
  have hP8 := hLP.1
  have hW16 := hWR.1
  have hF2 := hFR.1
  have hS6 := hLS.1
  have hs := hLP.2.2.1.1
  by_cases c1 : (0 ≤ a1.toInt ∧ a1.toInt < F) ∧ 0 ≤ a2.toInt ∧ a2.toInt < 2
  · obtain ⟨f, hf, rfl⟩ := Lb.of c1.1
    obtain ⟨d, hd, rfl⟩ := Lb.of (n := 2) c1.2
    obtain ⟨z, z1, z2⟩ := view_ok (v := ve) hMR hWR hFR hf hLP (by omega) (d := d) (by omega) (snd_d hWR hd)
    obtain ⟨r, r1, r2⟩ := lawX_t hP8 z2
    have hX : F_X11_law o t7 ve t1 tp t10 (nI f) (nI d) = some (r, z) := by
      unfold F_X11_law F_X11_view
      rw [noView_t o t7 hFR.2.1 (by omega), if_pos c1, z1]
      simp only [Option.bind_some]
      rw [r1]
      rcases is01_cases r2 with ⟨e, -⟩ | ⟨e, -⟩
      · rw [e]; rfl
      · rw [e]; rfl
    have hM : An (F_X12_law ms (nI f) (nI d)) (fun q => is01 (lawP (bnd (vL (mA ms 10) f) (vO (mA ms 10) (mA ms 11) (mA ms 9) f (fun k => mA ms 21 (1 + k))) (vR (fun w => mA ms 9 (4 * w + d)) (fun k => mA ms 21 (1 + k))) P) P) q.1 ∧ Fr scI scA scJ ms q.2) := by
      unfold F_X12_law
      simp only [nm_at]
      rw [isForm_t (s := mIs ms 0 0) hF (by omega), if_pos c1]
      simp only [Option.bind_some]
      rw [if_neg (by decide)]
      refine lh_t W (s := mIs ms 0 0) hP hP8 (by omega) fun s' ⟨a1, a2, a3, a4⟩ => ?_
      have e9 := a1.2.1 9 (by decide)
      have e10 := a1.2.1 10 (by decide)
      have e11 := a1.2.1 11 (by decide)
      have hJ := JH_ok (t7 := t7) (t10 := t10) (t1 := t1) (s := s') (f := f) (F := F) (W := W) (n := P) (r := fun j => mA ms 21 (1 + j)) (sd := fun w => mA ms 9 (4 * w + d)) (by rw [e11]; exact hMR) (by rw [e9]; exact hWR) (by rw [e10]; exact hFR) hf hP8 hLP.2.2.2 a2 a3 (fun w hw => a4 w (by omega))
      rw [e9, e10, e11] at hJ
      refine An_bind (lawM_t hP8 hJ) fun q ⟨b1, b2, b3⟩ => ?_
      have hfr : Fr scI scA scJ ms q.2 := ((fr0 ms).tr (a1.wd (by decide) (by decide) (by decide))).tr (fr_jA b2)
      rcases is01_cases b1 with ⟨e, e2⟩ | ⟨e, e2⟩
      · rw [e]; exact An_some ⟨is01_0 e2, hfr⟩
      · rw [e]; exact An_some ⟨is01_1 e2, hfr⟩
    obtain ⟨q, q1, q2, q3⟩ := hM
    exact ⟨r, q.1, (o, tx, z, tr, me, gu, ch, row, i1, i2, t7, t10, t1, tp, ts, p7, p10, p1, pp, ps), q.2, by unfold X_law; rw [hX]; rfl, by unfold M_law; rw [q1]; rfl, is01_uniq r2 q2, IV.f0 h q3⟩
  · refine ⟨nM 1, nM 1, (o, tx, ve, tr, me, gu, ch, row, i1, i2, t7, t10, t1, tp, ts, p7, p10, p1, pp, ps), mIs ms 0 0, ?_, ?_, rfl, IV.f0 h (fr0 ms)⟩
    · unfold X_law F_X11_law
      rw [noView_t o t7 hFR.2.1 (by omega), if_neg c1]
      rfl
    · unfold M_law F_X12_law
      simp only [nm_at]
      rw [isForm_t (s := mIs ms 0 0) hF (by omega), if_neg c1]
      rfl
theorem op_empty {st : SX} {ms : SM} (h : Inv st ms) (a1 a2 : Int32) : ∃ (r r2 : Int32) (st2 : SX) (ms2 : SM), X_empty st a1 a2 = some (r, st2) ∧ M_empty ms a1 a2 = some (r2, ms2) ∧ r = r2 ∧ Inv st2 ms2 := by
  obtain ⟨o, tx, ve, tr, me, gu, ch, row, i1, i2, t7, t10, t1, tp, ts, p7, p10, p1, pp, ps⟩ := st
  obtain ⟨W, F, P, S, T, ⟨hW, hF, hP, hS, hT⟩, hTX, hWR, hFR, hMR, hLP, hLS, hI1, hI2, hMo, hTr⟩ := (show IV o tx tr row i1 i2 t7 t10 t1 tp ts pp ps ms from h)
  have hP8 := hLP.1
  have hW16 := hWR.1
  have hF2 := hFR.1
  have hS6 := hLS.1
  have hs := hLP.2.2.1.1
  by_cases c1 : (0 ≤ a1.toInt ∧ a1.toInt < F) ∧ 0 ≤ a2.toInt ∧ a2.toInt < 2
  · obtain ⟨f, hf, rfl⟩ := Lb.of c1.1
    obtain ⟨d, hd, rfl⟩ := Lb.of (n := 2) c1.2
    obtain ⟨L, ok, rh, z, s', z1, z2, m1, m3, m4, m5, m6⟩ := views ve hMR hWR hFR hf hP hLP hd
    obtain ⟨r, r1, r2⟩ := loose_t hP8 z2
    obtain ⟨r', g1, g2⟩ := emptyM_t hP8 m4 m6
    refine ⟨r, r', (o, tx, z, tr, me, gu, ch, row, i1, i2, t7, t10, t1, tp, ts, p7, p10, p1, pp, ps), s', ?_, ?_, emp_uniq r2 g2, IV.f0 h m3⟩
    · unfold X_empty F_X11_empty F_X11_view
      rw [noView_t o t7 hFR.2.1 (by omega), if_pos c1, z1]
      simp only [Option.bind_some]
      rw [r1]; rfl
    · unfold M_empty F_X12_empty
      simp only [nm_at]
      rw [isForm_t (s := mIs ms 0 0) hF (by omega), if_pos c1, show F_X12_judgesPaper (mIs ms 0 0) (nI f) (nI d) = some s' from m1]
      simp only [Option.bind_some]
      rw [g1]; rfl
  · refine ⟨nM 1, nM 1, (o, tx, ve, tr, me, gu, ch, row, i1, i2, t7, t10, t1, tp, ts, p7, p10, p1, pp, ps), mIs ms 0 0, ?_, ?_, rfl, IV.f0 h (fr0 ms)⟩
    · unfold X_empty F_X11_empty
      rw [noView_t o t7 hFR.2.1 (by omega), if_neg c1]
      rfl
    · unfold M_empty F_X12_empty
      simp only [nm_at]
      rw [isForm_t (s := mIs ms 0 0) hF (by omega), if_neg c1]
      rfl
