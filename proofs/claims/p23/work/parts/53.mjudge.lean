/-! ===== the reference judges ===== -/
theorem bool1 : vp_nar .boolean (nI 1) = nI 1 := by decide
theorem bool0 : vp_nar .boolean (nI 0) = nI 0 := by decide
abbrev jA : List Nat := [26, 27, 28, 29]
/-- what the judging reads of a state, for n lines: letters, fits, rhymes -/
def JH (L : Nat → Nat) (ok : Nat → Bool) (rh : Nat → Nat → Bool) (n f : Nat) (s0 : SM) : Prop :=
  mI s0 25 = nI n ∧ ∃ w : Nat → Nat, (∀ i, i < n → mA s0 24 (3 * i) = nI (w i) ∧ w i < 16) ∧
  (∀ s, Fr [] jA [] s0 s → (∀ i, i < n → F_X12_letterOf s (nI f) (nI i) = some (nI (L i))) ∧ (∀ i, i < n → F_X12_isMetre s (nI f) (nI i) (nI (w i)) = some (if ok i = true then nI 1 else nI 0))) ∧
  (∀ i, i < n → L i < 8) ∧ ∀ a i, a < i → i < n → (rh a i = true ↔ (w a ≠ w i ∧ mA s0 31 (w a) = mA s0 31 (w i)))
def JS (L : Nat → Nat) (ok : Nat → Bool) (rh : Nat → Nat → Bool) (i : Nat) (s : SM) : Prop := ∀ j, j < i → mA s 26 j = (if js L ok rh j = 0 then nI 0 else nI 1) ∧ mA s 27 j = (if js L ok rh j = 1 then nI 1 else nI 0) ∧ mA s 29 j = if js L ok rh j = 2 then nI (ja L ok rh j - 1) else nM 9
theorem JS.up {L : Nat → Nat} {ok : Nat → Bool} {rh : Nat → Nat → Bool} {i : Nat} {s s' : SM} (h : JS L ok rh i s) {a b c : Int32} (e1 : mA s' 26 = upd (mA s 26) i a) (e2 : mA s' 27 = upd (mA s 27) i b) (e3 : mA s' 29 = upd (mA s 29) i c) (ha : a = (if js L ok rh i = 0 then nI 0 else nI 1)) (hb : b = (if js L ok rh i = 1 then nI 1 else nI 0)) (hc : c = if js L ok rh i = 2 then nI (ja L ok rh i - 1) else nM 9) : JS L ok rh (i + 1) s' := by
  intro j hj
  rw [e1, e2, e3, u_at, u_at, u_at]
  by_cases k : j = i
  · rw [if_pos k, if_pos k, if_pos k, k]; exact ⟨ha, hb, hc⟩
  · rw [if_neg k, if_neg k, if_neg k]; exact h j (by omega)
theorem ahead_lp {L : Nat → Nat} {ok : Nat → Bool} {rh : Nat → Nat → Bool} {n f : Nat} {s0 s : SM} (hn : n ≤ 8) (hJ : JH L ok rh n f s0) (hf : Fr [] jA [] s0 s) {i : Nat} (hi : i < n) (hS : JS L ok rh i s) {K2 : Int32 → SM → Option SM} {v3 : Int32} {Q : SM → Prop} (hk : An (F_X12_judges_b61 (nI f) K2 (nI i) v3 (encA (ja L ok rh i)) s) Q) : An (F_X12_judges_b24 (nI f) K2 fu (nI i) v3 (nI i - 1) s) Q := by
  obtain ⟨-, w, -, h2, h8, -⟩ := hJ
  obtain ⟨hl, -⟩ := h2 s hf
  have h8i := h8 i hi
  refine lp_dn (fun q v (_ : Unit) => F_X12_judges_b24 (nI f) K2 q (nI i) v3 v s) (fun m _ => m ≤ i ∧ nearL (js L ok rh) L (L i) m = ja L ok rh i) _ ?_ ?_ fu i () (by unfold fu; omega) ⟨Nat.le_refl i, rfl⟩
  · intro q m _ ⟨h1, h3⟩ hK
    show An (F_X12_judges_b24 (nI f) K2 (q + 1) (nI i) v3 (nI m) s) _
    rw [F_X12_judges_b24]
    obtain ⟨e1, -, -⟩ := hS m (by omega)
    rw [nearL] at h3
    unfold F_X12_judges_b55
    by_cases c : js L ok rh m = 0
    · rw [if_neg (fun z => z.1 c)] at h3
      rw [if_pos c] at e1
      simp (disch := omega) only [e1, and_true, true_and, and_false, false_and, or_true, true_or, or_false, false_or, not_true_eq_false, not_false_eq_true, nm_at, Option.bind_some, if_true, if_false, ↓k_m1, ↓k_m2, ↓k_m3, ↓k_m5, ↓k_m9, ↓k_m10, ↓k_mno, k_0, k_1, k_2, k_3, k_4, k_5, k_6, k_7, k_8, k_9, k_10, k_11, k_12, k_13, k_14, k_15, k_16, k_17, k_18, k_19, k_20, k_21, k_22, k_23, k_24, k_25, k_26, k_27, k_28, k_29, k_30, k_31, k_32, k_36, k_48, k_50, k_57, k_58, k_59, k_64, k_97, k_99, k_100, k_101, k_102, k_104, k_105, k_107, k_108, k_109, k_110, k_111, k_114, k_115, k_116, k_119, k_122, k_128, k_255, k_500, k_1000, k_1023, k_10000, k_100000, nI_add, nI_mul, nI_sub, nI_sub0, nI_leI, nI_ltI, nI_eq, nM_lt, nM_le, nM_nlt, nM_nle, nM_ne, nM_ne', nM_eq, q_ii, q_ia, q_ij, q_it, q_aa, q_ai, q_aj, q_at, q_jj, q_ji, q_ja, q_jt, q_tt, q_ti, q_ta, q_tj, u_at, uL_at, Nat.zero_mul, Nat.mul_zero, Nat.one_mul, Nat.mul_one, Nat.zero_add, Nat.add_zero, nI_toInt, agN, asN, agLN, asLN, atvN, setvN, if_pos, if_neg]
      exact hK () ⟨by omega, h3⟩
    · rw [if_neg c] at e1
      by_cases d : L m = L i
      · rw [if_pos ⟨c, d⟩] at h3
        simp (disch := omega) only [e1, hl m (by omega), hl i hi, d, and_true, true_and, and_false, false_and, or_true, true_or, or_false, false_or, not_true_eq_false, not_false_eq_true, nm_at, Option.bind_some, if_true, if_false, ↓k_m1, ↓k_m2, ↓k_m3, ↓k_m5, ↓k_m9, ↓k_m10, ↓k_mno, k_0, k_1, k_2, k_3, k_4, k_5, k_6, k_7, k_8, k_9, k_10, k_11, k_12, k_13, k_14, k_15, k_16, k_17, k_18, k_19, k_20, k_21, k_22, k_23, k_24, k_25, k_26, k_27, k_28, k_29, k_30, k_31, k_32, k_36, k_48, k_50, k_57, k_58, k_59, k_64, k_97, k_99, k_100, k_101, k_102, k_104, k_105, k_107, k_108, k_109, k_110, k_111, k_114, k_115, k_116, k_119, k_122, k_128, k_255, k_500, k_1000, k_1023, k_10000, k_100000, nI_add, nI_mul, nI_sub, nI_sub0, nI_leI, nI_ltI, nI_eq, nM_lt, nM_le, nM_nlt, nM_nle, nM_ne, nM_ne', nM_eq, q_ii, q_ia, q_ij, q_it, q_aa, q_ai, q_aj, q_at, q_jj, q_ji, q_ja, q_jt, q_tt, q_ti, q_ta, q_tj, u_at, uL_at, Nat.zero_mul, Nat.mul_zero, Nat.one_mul, Nat.mul_one, Nat.zero_add, Nat.add_zero, nI_toInt, agN, asN, agLN, asLN, atvN, setvN, if_pos, if_neg]
        unfold encA at hk
        rw [← h3, if_neg (by omega)] at hk
        exact hk
      · rw [if_neg (fun z => d z.2)] at h3
        have h8m := h8 m (by omega)
        simp (disch := omega) only [e1, hl m (by omega), hl i hi, and_true, true_and, and_false, false_and, or_true, true_or, or_false, false_or, not_true_eq_false, not_false_eq_true, nm_at, Option.bind_some, if_true, if_false, ↓k_m1, ↓k_m2, ↓k_m3, ↓k_m5, ↓k_m9, ↓k_m10, ↓k_mno, k_0, k_1, k_2, k_3, k_4, k_5, k_6, k_7, k_8, k_9, k_10, k_11, k_12, k_13, k_14, k_15, k_16, k_17, k_18, k_19, k_20, k_21, k_22, k_23, k_24, k_25, k_26, k_27, k_28, k_29, k_30, k_31, k_32, k_36, k_48, k_50, k_57, k_58, k_59, k_64, k_97, k_99, k_100, k_101, k_102, k_104, k_105, k_107, k_108, k_109, k_110, k_111, k_114, k_115, k_116, k_119, k_122, k_128, k_255, k_500, k_1000, k_1023, k_10000, k_100000, nI_add, nI_mul, nI_sub, nI_sub0, nI_leI, nI_ltI, nI_eq, nM_lt, nM_le, nM_nlt, nM_nle, nM_ne, nM_ne', nM_eq, q_ii, q_ia, q_ij, q_it, q_aa, q_ai, q_aj, q_at, q_jj, q_ji, q_ja, q_jt, q_tt, q_ti, q_ta, q_tj, u_at, uL_at, Nat.zero_mul, Nat.mul_zero, Nat.one_mul, Nat.mul_one, Nat.zero_add, Nat.add_zero, nI_toInt, agN, asN, agLN, asLN, atvN, setvN, if_pos, if_neg]
        exact hK () ⟨by omega, h3⟩
  · intro q _ ⟨h1, h3⟩
    show An (F_X12_judges_b24 (nI f) K2 (q + 1) (nI i) v3 (nI 0 - 1) s) _
    rw [F_X12_judges_b24]
    rw [show nI 0 - 1 = nM 1 from by decide]
    simp (disch := omega) only [and_true, true_and, and_false, false_and, or_true, true_or, or_false, false_or, not_true_eq_false, not_false_eq_true, nm_at, Option.bind_some, if_true, if_false, ↓k_m1, ↓k_m2, ↓k_m3, ↓k_m5, ↓k_m9, ↓k_m10, ↓k_mno, k_0, k_1, k_2, k_3, k_4, k_5, k_6, k_7, k_8, k_9, k_10, k_11, k_12, k_13, k_14, k_15, k_16, k_17, k_18, k_19, k_20, k_21, k_22, k_23, k_24, k_25, k_26, k_27, k_28, k_29, k_30, k_31, k_32, k_36, k_48, k_50, k_57, k_58, k_59, k_64, k_97, k_99, k_100, k_101, k_102, k_104, k_105, k_107, k_108, k_109, k_110, k_111, k_114, k_115, k_116, k_119, k_122, k_128, k_255, k_500, k_1000, k_1023, k_10000, k_100000, nI_add, nI_mul, nI_sub, nI_sub0, nI_leI, nI_ltI, nI_eq, nM_lt, nM_le, nM_nlt, nM_nle, nM_ne, nM_ne', nM_eq, q_ii, q_ia, q_ij, q_it, q_aa, q_ai, q_aj, q_at, q_jj, q_ji, q_ja, q_jt, q_tt, q_ti, q_ta, q_tj, u_at, uL_at, Nat.zero_mul, Nat.mul_zero, Nat.one_mul, Nat.mul_one, Nat.zero_add, Nat.add_zero, nI_toInt, agN, asN, agLN, asLN, atvN, setvN, if_pos, if_neg]
    rw [nearL] at h3
    unfold encA at hk
    rw [if_pos h3.symm] at hk
    exact hk
def jfin (K2 : Int32 → SM → Option SM) (i : Nat) (s : SM) (o : Nat) (c : Int32) (t : Nat) : Option SM := K2 (nI (i + 1)) (mAs (mAs (mAs s 27 (upd (mA s 27) i (nI o))) 29 (upd (mA s 29) i c)) 26 (upd (mA s 26) i (nI t)))
theorem bool_n {b : Nat} (hb : b < 2) : vp_nar .boolean (nI b) = nI b := by
  obtain rfl | rfl : b = 0 ∨ b = 1 := by omega
  · exact bool0
  · exact bool1
theorem jb192 {i b : Nat} (hi : i < 9) (hb : b < 2) (x : Int32) (K2 : Int32 → SM → Option SM) (s : SM) : F_X12_judges_b192 x K2 (nI i) s (nI i) (nI b) = K2 (nI (i + 1)) (mAs s 26 (upd (mA s 26) i (nI b))) := by
  unfold F_X12_judges_b192
  simp (disch := omega) only [bool_n hb, and_true, true_and, and_false, false_and, or_true, true_or, or_false, false_or, not_true_eq_false, not_false_eq_true, nm_at, Option.bind_some, if_true, if_false, ↓k_m1, ↓k_m2, ↓k_m3, ↓k_m5, ↓k_m9, ↓k_m10, ↓k_mno, k_0, k_1, k_2, k_3, k_4, k_5, k_6, k_7, k_8, k_9, k_10, k_11, k_12, k_13, k_14, k_15, k_16, k_17, k_18, k_19, k_20, k_21, k_22, k_23, k_24, k_25, k_26, k_27, k_28, k_29, k_30, k_31, k_32, k_36, k_48, k_50, k_57, k_58, k_59, k_64, k_97, k_99, k_100, k_101, k_102, k_104, k_105, k_107, k_108, k_109, k_110, k_111, k_114, k_115, k_116, k_119, k_122, k_128, k_255, k_500, k_1000, k_1023, k_10000, k_100000, nI_add, nI_mul, nI_sub, nI_sub0, nI_leI, nI_ltI, nI_eq, nM_lt, nM_le, nM_nlt, nM_nle, nM_ne, nM_ne', nM_eq, q_ii, q_ia, q_ij, q_it, q_aa, q_ai, q_aj, q_at, q_jj, q_ji, q_ja, q_jt, q_tt, q_ti, q_ta, q_tj, u_at, uL_at, Nat.zero_mul, Nat.mul_zero, Nat.one_mul, Nat.mul_one, Nat.zero_add, Nat.add_zero, nI_toInt, agN, asN, agLN, asLN, atvN, setvN, if_pos, if_neg]
theorem jb161 {i o t : Nat} (hi : i < 9) (ho : o < 2) (x : Int32) (K2 : Int32 → SM → Option SM) (s : SM) (c : Int32) (ht : t = if o = 0 ∧ c = nM 9 then 0 else 1) (h27 : mA s 27 i = nI o) : F_X12_judges_b161 x K2 (nI i) s (nI i) c = K2 (nI (i + 1)) (mAs (mAs s 29 (upd (mA s 29) i c)) 26 (upd (mA s 26) i (nI t))) := by
  unfold F_X12_judges_b161 F_X12_judges_b187
  by_cases h0 : o = 0
  · by_cases hc : c = nM 9
    · rw [if_pos ⟨h0, hc⟩] at ht
      subst ht
      have e := jb192 hi (b := 0) (by omega) x K2 (mAs s 29 (upd (mA s 29) i c))
      simp (disch := omega) only [and_true, true_and, and_false, false_and, or_true, true_or, or_false, false_or, not_true_eq_false, not_false_eq_true, nm_at, Option.bind_some, if_true, if_false, ↓k_m1, ↓k_m2, ↓k_m3, ↓k_m5, ↓k_m9, ↓k_m10, ↓k_mno, k_0, k_1, k_2, k_3, k_4, k_5, k_6, k_7, k_8, k_9, k_10, k_11, k_12, k_13, k_14, k_15, k_16, k_17, k_18, k_19, k_20, k_21, k_22, k_23, k_24, k_25, k_26, k_27, k_28, k_29, k_30, k_31, k_32, k_36, k_48, k_50, k_57, k_58, k_59, k_64, k_97, k_99, k_100, k_101, k_102, k_104, k_105, k_107, k_108, k_109, k_110, k_111, k_114, k_115, k_116, k_119, k_122, k_128, k_255, k_500, k_1000, k_1023, k_10000, k_100000, nI_add, nI_mul, nI_sub, nI_sub0, nI_leI, nI_ltI, nI_eq, nM_lt, nM_le, nM_nlt, nM_nle, nM_ne, nM_ne', nM_eq, q_ii, q_ia, q_ij, q_it, q_aa, q_ai, q_aj, q_at, q_jj, q_ji, q_ja, q_jt, q_tt, q_ti, q_ta, q_tj, u_at, uL_at, Nat.zero_mul, Nat.mul_zero, Nat.one_mul, Nat.mul_one, Nat.zero_add, Nat.add_zero, nI_toInt, agN, asN, agLN, asLN, atvN, setvN, if_pos, if_neg] at e
      simp (disch := omega) only [h27, h0, if_pos hc, e, and_true, true_and, and_false, false_and, or_true, true_or, or_false, false_or, not_true_eq_false, not_false_eq_true, nm_at, Option.bind_some, if_true, if_false, ↓k_m1, ↓k_m2, ↓k_m3, ↓k_m5, ↓k_m9, ↓k_m10, ↓k_mno, k_0, k_1, k_2, k_3, k_4, k_5, k_6, k_7, k_8, k_9, k_10, k_11, k_12, k_13, k_14, k_15, k_16, k_17, k_18, k_19, k_20, k_21, k_22, k_23, k_24, k_25, k_26, k_27, k_28, k_29, k_30, k_31, k_32, k_36, k_48, k_50, k_57, k_58, k_59, k_64, k_97, k_99, k_100, k_101, k_102, k_104, k_105, k_107, k_108, k_109, k_110, k_111, k_114, k_115, k_116, k_119, k_122, k_128, k_255, k_500, k_1000, k_1023, k_10000, k_100000, nI_add, nI_mul, nI_sub, nI_sub0, nI_leI, nI_ltI, nI_eq, nM_lt, nM_le, nM_nlt, nM_nle, nM_ne, nM_ne', nM_eq, q_ii, q_ia, q_ij, q_it, q_aa, q_ai, q_aj, q_at, q_jj, q_ji, q_ja, q_jt, q_tt, q_ti, q_ta, q_tj, u_at, uL_at, Nat.zero_mul, Nat.mul_zero, Nat.one_mul, Nat.mul_one, Nat.zero_add, Nat.add_zero, nI_toInt, agN, asN, agLN, asLN, atvN, setvN, if_pos, if_neg]
    · rw [if_neg (fun z => hc z.2)] at ht
      subst ht
      have e := jb192 hi (b := 1) (by omega) x K2 (mAs s 29 (upd (mA s 29) i c))
      simp (disch := omega) only [and_true, true_and, and_false, false_and, or_true, true_or, or_false, false_or, not_true_eq_false, not_false_eq_true, nm_at, Option.bind_some, if_true, if_false, ↓k_m1, ↓k_m2, ↓k_m3, ↓k_m5, ↓k_m9, ↓k_m10, ↓k_mno, k_0, k_1, k_2, k_3, k_4, k_5, k_6, k_7, k_8, k_9, k_10, k_11, k_12, k_13, k_14, k_15, k_16, k_17, k_18, k_19, k_20, k_21, k_22, k_23, k_24, k_25, k_26, k_27, k_28, k_29, k_30, k_31, k_32, k_36, k_48, k_50, k_57, k_58, k_59, k_64, k_97, k_99, k_100, k_101, k_102, k_104, k_105, k_107, k_108, k_109, k_110, k_111, k_114, k_115, k_116, k_119, k_122, k_128, k_255, k_500, k_1000, k_1023, k_10000, k_100000, nI_add, nI_mul, nI_sub, nI_sub0, nI_leI, nI_ltI, nI_eq, nM_lt, nM_le, nM_nlt, nM_nle, nM_ne, nM_ne', nM_eq, q_ii, q_ia, q_ij, q_it, q_aa, q_ai, q_aj, q_at, q_jj, q_ji, q_ja, q_jt, q_tt, q_ti, q_ta, q_tj, u_at, uL_at, Nat.zero_mul, Nat.mul_zero, Nat.one_mul, Nat.mul_one, Nat.zero_add, Nat.add_zero, nI_toInt, agN, asN, agLN, asLN, atvN, setvN, if_pos, if_neg] at e
      simp (disch := omega) only [h27, h0, if_neg hc, e, and_true, true_and, and_false, false_and, or_true, true_or, or_false, false_or, not_true_eq_false, not_false_eq_true, nm_at, Option.bind_some, if_true, if_false, ↓k_m1, ↓k_m2, ↓k_m3, ↓k_m5, ↓k_m9, ↓k_m10, ↓k_mno, k_0, k_1, k_2, k_3, k_4, k_5, k_6, k_7, k_8, k_9, k_10, k_11, k_12, k_13, k_14, k_15, k_16, k_17, k_18, k_19, k_20, k_21, k_22, k_23, k_24, k_25, k_26, k_27, k_28, k_29, k_30, k_31, k_32, k_36, k_48, k_50, k_57, k_58, k_59, k_64, k_97, k_99, k_100, k_101, k_102, k_104, k_105, k_107, k_108, k_109, k_110, k_111, k_114, k_115, k_116, k_119, k_122, k_128, k_255, k_500, k_1000, k_1023, k_10000, k_100000, nI_add, nI_mul, nI_sub, nI_sub0, nI_leI, nI_ltI, nI_eq, nM_lt, nM_le, nM_nlt, nM_nle, nM_ne, nM_ne', nM_eq, q_ii, q_ia, q_ij, q_it, q_aa, q_ai, q_aj, q_at, q_jj, q_ji, q_ja, q_jt, q_tt, q_ti, q_ta, q_tj, u_at, uL_at, Nat.zero_mul, Nat.mul_zero, Nat.one_mul, Nat.mul_one, Nat.zero_add, Nat.add_zero, nI_toInt, agN, asN, agLN, asLN, atvN, setvN, if_pos, if_neg]
  · rw [if_neg (fun z => h0 z.1)] at ht
    subst ht
    have e := jb192 hi (b := 1) (by omega) x K2 (mAs s 29 (upd (mA s 29) i c))
    simp (disch := omega) only [and_true, true_and, and_false, false_and, or_true, true_or, or_false, false_or, not_true_eq_false, not_false_eq_true, nm_at, Option.bind_some, if_true, if_false, ↓k_m1, ↓k_m2, ↓k_m3, ↓k_m5, ↓k_m9, ↓k_m10, ↓k_mno, k_0, k_1, k_2, k_3, k_4, k_5, k_6, k_7, k_8, k_9, k_10, k_11, k_12, k_13, k_14, k_15, k_16, k_17, k_18, k_19, k_20, k_21, k_22, k_23, k_24, k_25, k_26, k_27, k_28, k_29, k_30, k_31, k_32, k_36, k_48, k_50, k_57, k_58, k_59, k_64, k_97, k_99, k_100, k_101, k_102, k_104, k_105, k_107, k_108, k_109, k_110, k_111, k_114, k_115, k_116, k_119, k_122, k_128, k_255, k_500, k_1000, k_1023, k_10000, k_100000, nI_add, nI_mul, nI_sub, nI_sub0, nI_leI, nI_ltI, nI_eq, nM_lt, nM_le, nM_nlt, nM_nle, nM_ne, nM_ne', nM_eq, q_ii, q_ia, q_ij, q_it, q_aa, q_ai, q_aj, q_at, q_jj, q_ji, q_ja, q_jt, q_tt, q_ti, q_ta, q_tj, u_at, uL_at, Nat.zero_mul, Nat.mul_zero, Nat.one_mul, Nat.mul_one, Nat.zero_add, Nat.add_zero, nI_toInt, agN, asN, agLN, asLN, atvN, setvN, if_pos, if_neg] at e
    simp (disch := omega) only [h27, e, and_true, true_and, and_false, false_and, or_true, true_or, or_false, false_or, not_true_eq_false, not_false_eq_true, nm_at, Option.bind_some, if_true, if_false, ↓k_m1, ↓k_m2, ↓k_m3, ↓k_m5, ↓k_m9, ↓k_m10, ↓k_mno, k_0, k_1, k_2, k_3, k_4, k_5, k_6, k_7, k_8, k_9, k_10, k_11, k_12, k_13, k_14, k_15, k_16, k_17, k_18, k_19, k_20, k_21, k_22, k_23, k_24, k_25, k_26, k_27, k_28, k_29, k_30, k_31, k_32, k_36, k_48, k_50, k_57, k_58, k_59, k_64, k_97, k_99, k_100, k_101, k_102, k_104, k_105, k_107, k_108, k_109, k_110, k_111, k_114, k_115, k_116, k_119, k_122, k_128, k_255, k_500, k_1000, k_1023, k_10000, k_100000, nI_add, nI_mul, nI_sub, nI_sub0, nI_leI, nI_ltI, nI_eq, nM_lt, nM_le, nM_nlt, nM_nle, nM_ne, nM_ne', nM_eq, q_ii, q_ia, q_ij, q_it, q_aa, q_ai, q_aj, q_at, q_jj, q_ji, q_ja, q_jt, q_tt, q_ti, q_ta, q_tj, u_at, uL_at, Nat.zero_mul, Nat.mul_zero, Nat.one_mul, Nat.mul_one, Nat.zero_add, Nat.add_zero, nI_toInt, agN, asN, agLN, asLN, atvN, setvN, if_pos, if_neg]
theorem jb138 {i o t x5 x6 : Nat} (hi : i < 9) (ho : o < 2) (h5 : x5 < 2) (h6 : x6 < 2) (x : Int32) (K2 : Int32 → SM → Option SM) (s : SM) (v4 c : Int32) (hc : c = if x5 = 0 ∨ x6 = 0 then nM 9 else v4) (ht : t = if o = 0 ∧ c = nM 9 then 0 else 1) : F_X12_judges_b138 x K2 (nI i) v4 (nI x5) (nI x6) s (nI i) (nI o) = jfin K2 i s o c t := by
  have e := jb161 hi ho x K2 (mAs s 27 (upd (mA s 27) i (nI o))) c ht (by simp (disch := omega) only [and_true, true_and, and_false, false_and, or_true, true_or, or_false, false_or, not_true_eq_false, not_false_eq_true, nm_at, Option.bind_some, if_true, if_false, ↓k_m1, ↓k_m2, ↓k_m3, ↓k_m5, ↓k_m9, ↓k_m10, ↓k_mno, k_0, k_1, k_2, k_3, k_4, k_5, k_6, k_7, k_8, k_9, k_10, k_11, k_12, k_13, k_14, k_15, k_16, k_17, k_18, k_19, k_20, k_21, k_22, k_23, k_24, k_25, k_26, k_27, k_28, k_29, k_30, k_31, k_32, k_36, k_48, k_50, k_57, k_58, k_59, k_64, k_97, k_99, k_100, k_101, k_102, k_104, k_105, k_107, k_108, k_109, k_110, k_111, k_114, k_115, k_116, k_119, k_122, k_128, k_255, k_500, k_1000, k_1023, k_10000, k_100000, nI_add, nI_mul, nI_sub, nI_sub0, nI_leI, nI_ltI, nI_eq, nM_lt, nM_le, nM_nlt, nM_nle, nM_ne, nM_ne', nM_eq, q_ii, q_ia, q_ij, q_it, q_aa, q_ai, q_aj, q_at, q_jj, q_ji, q_ja, q_jt, q_tt, q_ti, q_ta, q_tj, u_at, uL_at, Nat.zero_mul, Nat.mul_zero, Nat.one_mul, Nat.mul_one, Nat.zero_add, Nat.add_zero, nI_toInt, agN, asN, agLN, asLN, atvN, setvN, if_pos, if_neg])
  unfold F_X12_judges_b138 F_X12_judges_b159 jfin
  by_cases h : x5 = 0 ∨ x6 = 0
  · rw [if_pos h] at hc
    subst hc
    simp (disch := omega) only [and_true, true_and, and_false, false_and, or_true, true_or, or_false, false_or, not_true_eq_false, not_false_eq_true, nm_at, Option.bind_some, if_true, if_false, ↓k_m1, ↓k_m2, ↓k_m3, ↓k_m5, ↓k_m9, ↓k_m10, ↓k_mno, k_0, k_1, k_2, k_3, k_4, k_5, k_6, k_7, k_8, k_9, k_10, k_11, k_12, k_13, k_14, k_15, k_16, k_17, k_18, k_19, k_20, k_21, k_22, k_23, k_24, k_25, k_26, k_27, k_28, k_29, k_30, k_31, k_32, k_36, k_48, k_50, k_57, k_58, k_59, k_64, k_97, k_99, k_100, k_101, k_102, k_104, k_105, k_107, k_108, k_109, k_110, k_111, k_114, k_115, k_116, k_119, k_122, k_128, k_255, k_500, k_1000, k_1023, k_10000, k_100000, nI_add, nI_mul, nI_sub, nI_sub0, nI_leI, nI_ltI, nI_eq, nM_lt, nM_le, nM_nlt, nM_nle, nM_ne, nM_ne', nM_eq, q_ii, q_ia, q_ij, q_it, q_aa, q_ai, q_aj, q_at, q_jj, q_ji, q_ja, q_jt, q_tt, q_ti, q_ta, q_tj, u_at, uL_at, Nat.zero_mul, Nat.mul_zero, Nat.one_mul, Nat.mul_one, Nat.zero_add, Nat.add_zero, nI_toInt, agN, asN, agLN, asLN, atvN, setvN, if_pos, if_neg] at e
    by_cases g : x5 = 0
    · simp (disch := omega) only [bool_n ho, e, and_true, true_and, and_false, false_and, or_true, true_or, or_false, false_or, not_true_eq_false, not_false_eq_true, nm_at, Option.bind_some, if_true, if_false, ↓k_m1, ↓k_m2, ↓k_m3, ↓k_m5, ↓k_m9, ↓k_m10, ↓k_mno, k_0, k_1, k_2, k_3, k_4, k_5, k_6, k_7, k_8, k_9, k_10, k_11, k_12, k_13, k_14, k_15, k_16, k_17, k_18, k_19, k_20, k_21, k_22, k_23, k_24, k_25, k_26, k_27, k_28, k_29, k_30, k_31, k_32, k_36, k_48, k_50, k_57, k_58, k_59, k_64, k_97, k_99, k_100, k_101, k_102, k_104, k_105, k_107, k_108, k_109, k_110, k_111, k_114, k_115, k_116, k_119, k_122, k_128, k_255, k_500, k_1000, k_1023, k_10000, k_100000, nI_add, nI_mul, nI_sub, nI_sub0, nI_leI, nI_ltI, nI_eq, nM_lt, nM_le, nM_nlt, nM_nle, nM_ne, nM_ne', nM_eq, q_ii, q_ia, q_ij, q_it, q_aa, q_ai, q_aj, q_at, q_jj, q_ji, q_ja, q_jt, q_tt, q_ti, q_ta, q_tj, u_at, uL_at, Nat.zero_mul, Nat.mul_zero, Nat.one_mul, Nat.mul_one, Nat.zero_add, Nat.add_zero, nI_toInt, agN, asN, agLN, asLN, atvN, setvN, if_pos, if_neg]
    · simp (disch := omega) only [bool_n ho, e, and_true, true_and, and_false, false_and, or_true, true_or, or_false, false_or, not_true_eq_false, not_false_eq_true, nm_at, Option.bind_some, if_true, if_false, ↓k_m1, ↓k_m2, ↓k_m3, ↓k_m5, ↓k_m9, ↓k_m10, ↓k_mno, k_0, k_1, k_2, k_3, k_4, k_5, k_6, k_7, k_8, k_9, k_10, k_11, k_12, k_13, k_14, k_15, k_16, k_17, k_18, k_19, k_20, k_21, k_22, k_23, k_24, k_25, k_26, k_27, k_28, k_29, k_30, k_31, k_32, k_36, k_48, k_50, k_57, k_58, k_59, k_64, k_97, k_99, k_100, k_101, k_102, k_104, k_105, k_107, k_108, k_109, k_110, k_111, k_114, k_115, k_116, k_119, k_122, k_128, k_255, k_500, k_1000, k_1023, k_10000, k_100000, nI_add, nI_mul, nI_sub, nI_sub0, nI_leI, nI_ltI, nI_eq, nM_lt, nM_le, nM_nlt, nM_nle, nM_ne, nM_ne', nM_eq, q_ii, q_ia, q_ij, q_it, q_aa, q_ai, q_aj, q_at, q_jj, q_ji, q_ja, q_jt, q_tt, q_ti, q_ta, q_tj, u_at, uL_at, Nat.zero_mul, Nat.mul_zero, Nat.one_mul, Nat.mul_one, Nat.zero_add, Nat.add_zero, nI_toInt, agN, asN, agLN, asLN, atvN, setvN, if_pos, if_neg]
  · rw [if_neg h] at hc
    subst hc
    simp (disch := omega) only [and_true, true_and, and_false, false_and, or_true, true_or, or_false, false_or, not_true_eq_false, not_false_eq_true, nm_at, Option.bind_some, if_true, if_false, ↓k_m1, ↓k_m2, ↓k_m3, ↓k_m5, ↓k_m9, ↓k_m10, ↓k_mno, k_0, k_1, k_2, k_3, k_4, k_5, k_6, k_7, k_8, k_9, k_10, k_11, k_12, k_13, k_14, k_15, k_16, k_17, k_18, k_19, k_20, k_21, k_22, k_23, k_24, k_25, k_26, k_27, k_28, k_29, k_30, k_31, k_32, k_36, k_48, k_50, k_57, k_58, k_59, k_64, k_97, k_99, k_100, k_101, k_102, k_104, k_105, k_107, k_108, k_109, k_110, k_111, k_114, k_115, k_116, k_119, k_122, k_128, k_255, k_500, k_1000, k_1023, k_10000, k_100000, nI_add, nI_mul, nI_sub, nI_sub0, nI_leI, nI_ltI, nI_eq, nM_lt, nM_le, nM_nlt, nM_nle, nM_ne, nM_ne', nM_eq, q_ii, q_ia, q_ij, q_it, q_aa, q_ai, q_aj, q_at, q_jj, q_ji, q_ja, q_jt, q_tt, q_ti, q_ta, q_tj, u_at, uL_at, Nat.zero_mul, Nat.mul_zero, Nat.one_mul, Nat.mul_one, Nat.zero_add, Nat.add_zero, nI_toInt, agN, asN, agLN, asLN, atvN, setvN, if_pos, if_neg] at e
    simp (disch := omega) only [bool_n ho, e, and_true, true_and, and_false, false_and, or_true, true_or, or_false, false_or, not_true_eq_false, not_false_eq_true, nm_at, Option.bind_some, if_true, if_false, ↓k_m1, ↓k_m2, ↓k_m3, ↓k_m5, ↓k_m9, ↓k_m10, ↓k_mno, k_0, k_1, k_2, k_3, k_4, k_5, k_6, k_7, k_8, k_9, k_10, k_11, k_12, k_13, k_14, k_15, k_16, k_17, k_18, k_19, k_20, k_21, k_22, k_23, k_24, k_25, k_26, k_27, k_28, k_29, k_30, k_31, k_32, k_36, k_48, k_50, k_57, k_58, k_59, k_64, k_97, k_99, k_100, k_101, k_102, k_104, k_105, k_107, k_108, k_109, k_110, k_111, k_114, k_115, k_116, k_119, k_122, k_128, k_255, k_500, k_1000, k_1023, k_10000, k_100000, nI_add, nI_mul, nI_sub, nI_sub0, nI_leI, nI_ltI, nI_eq, nM_lt, nM_le, nM_nlt, nM_nle, nM_ne, nM_ne', nM_eq, q_ii, q_ia, q_ij, q_it, q_aa, q_ai, q_aj, q_at, q_jj, q_ji, q_ja, q_jt, q_tt, q_ti, q_ta, q_tj, u_at, uL_at, Nat.zero_mul, Nat.mul_zero, Nat.one_mul, Nat.mul_one, Nat.zero_add, Nat.add_zero, nI_toInt, agN, asN, agLN, asLN, atvN, setvN, if_pos, if_neg]
theorem jb116 {i a o t x5 x6 : Nat} (hi : i < 9) (ha : a < 10) (h5 : x5 < 2) (h6 : x6 < 2) (x : Int32) (K2 : Int32 → SM → Option SM) (s : SM) (c : Int32) (ho : o = if x5 = 1 ∧ a = 0 then 1 else 0) (hc : c = if x5 = 0 ∨ x6 = 0 then nM 9 else encA a) (ht : t = if o = 0 ∧ c = nM 9 then 0 else 1) : F_X12_judges_b116 x K2 (nI i) (encA a) (nI x5) s (nI x6) = jfin K2 i s o c t := by
  have ho2 : o < 2 := by rw [ho]; split <;> omega
  have e := jb138 hi ho2 h5 h6 x K2 s (encA a) c hc ht
  unfold F_X12_judges_b116 F_X12_judges_b137
  by_cases g : x5 = 0
  · rw [if_neg (by omega)] at ho
    subst ho
    simp (disch := omega) only [and_true, true_and, and_false, false_and, or_true, true_or, or_false, false_or, not_true_eq_false, not_false_eq_true, nm_at, Option.bind_some, if_true, if_false, ↓k_m1, ↓k_m2, ↓k_m3, ↓k_m5, ↓k_m9, ↓k_m10, ↓k_mno, k_0, k_1, k_2, k_3, k_4, k_5, k_6, k_7, k_8, k_9, k_10, k_11, k_12, k_13, k_14, k_15, k_16, k_17, k_18, k_19, k_20, k_21, k_22, k_23, k_24, k_25, k_26, k_27, k_28, k_29, k_30, k_31, k_32, k_36, k_48, k_50, k_57, k_58, k_59, k_64, k_97, k_99, k_100, k_101, k_102, k_104, k_105, k_107, k_108, k_109, k_110, k_111, k_114, k_115, k_116, k_119, k_122, k_128, k_255, k_500, k_1000, k_1023, k_10000, k_100000, nI_add, nI_mul, nI_sub, nI_sub0, nI_leI, nI_ltI, nI_eq, nM_lt, nM_le, nM_nlt, nM_nle, nM_ne, nM_ne', nM_eq, q_ii, q_ia, q_ij, q_it, q_aa, q_ai, q_aj, q_at, q_jj, q_ji, q_ja, q_jt, q_tt, q_ti, q_ta, q_tj, u_at, uL_at, Nat.zero_mul, Nat.mul_zero, Nat.one_mul, Nat.mul_one, Nat.zero_add, Nat.add_zero, nI_toInt, agN, asN, agLN, asLN, atvN, setvN, if_pos, if_neg]
    exact e
  · by_cases h : a = 0
    · rw [if_pos (by omega)] at ho
      subst ho
      have e2 : encA a = nM 1 := if_pos h
      rw [e2] at e ⊢
      simp (disch := omega) only [and_true, true_and, and_false, false_and, or_true, true_or, or_false, false_or, not_true_eq_false, not_false_eq_true, nm_at, Option.bind_some, if_true, if_false, ↓k_m1, ↓k_m2, ↓k_m3, ↓k_m5, ↓k_m9, ↓k_m10, ↓k_mno, k_0, k_1, k_2, k_3, k_4, k_5, k_6, k_7, k_8, k_9, k_10, k_11, k_12, k_13, k_14, k_15, k_16, k_17, k_18, k_19, k_20, k_21, k_22, k_23, k_24, k_25, k_26, k_27, k_28, k_29, k_30, k_31, k_32, k_36, k_48, k_50, k_57, k_58, k_59, k_64, k_97, k_99, k_100, k_101, k_102, k_104, k_105, k_107, k_108, k_109, k_110, k_111, k_114, k_115, k_116, k_119, k_122, k_128, k_255, k_500, k_1000, k_1023, k_10000, k_100000, nI_add, nI_mul, nI_sub, nI_sub0, nI_leI, nI_ltI, nI_eq, nM_lt, nM_le, nM_nlt, nM_nle, nM_ne, nM_ne', nM_eq, q_ii, q_ia, q_ij, q_it, q_aa, q_ai, q_aj, q_at, q_jj, q_ji, q_ja, q_jt, q_tt, q_ti, q_ta, q_tj, u_at, uL_at, Nat.zero_mul, Nat.mul_zero, Nat.one_mul, Nat.mul_one, Nat.zero_add, Nat.add_zero, nI_toInt, agN, asN, agLN, asLN, atvN, setvN, if_pos, if_neg]
      exact e
    · rw [if_neg (by omega)] at ho
      subst ho
      have e2 : encA a = nI (a - 1) := if_neg h
      rw [e2] at e ⊢
      simp (disch := omega) only [and_true, true_and, and_false, false_and, or_true, true_or, or_false, false_or, not_true_eq_false, not_false_eq_true, nm_at, Option.bind_some, if_true, if_false, ↓k_m1, ↓k_m2, ↓k_m3, ↓k_m5, ↓k_m9, ↓k_m10, ↓k_mno, k_0, k_1, k_2, k_3, k_4, k_5, k_6, k_7, k_8, k_9, k_10, k_11, k_12, k_13, k_14, k_15, k_16, k_17, k_18, k_19, k_20, k_21, k_22, k_23, k_24, k_25, k_26, k_27, k_28, k_29, k_30, k_31, k_32, k_36, k_48, k_50, k_57, k_58, k_59, k_64, k_97, k_99, k_100, k_101, k_102, k_104, k_105, k_107, k_108, k_109, k_110, k_111, k_114, k_115, k_116, k_119, k_122, k_128, k_255, k_500, k_1000, k_1023, k_10000, k_100000, nI_add, nI_mul, nI_sub, nI_sub0, nI_leI, nI_ltI, nI_eq, nM_lt, nM_le, nM_nlt, nM_nle, nM_ne, nM_ne', nM_eq, q_ii, q_ia, q_ij, q_it, q_aa, q_ai, q_aj, q_at, q_jj, q_ji, q_ja, q_jt, q_tt, q_ti, q_ta, q_tj, u_at, uL_at, Nat.zero_mul, Nat.mul_zero, Nat.one_mul, Nat.mul_one, Nat.zero_add, Nat.add_zero, nI_toInt, agN, asN, agLN, asLN, atvN, setvN, if_pos, if_neg]
      exact e
theorem val_lp {L : Nat → Nat} {ok : Nat → Bool} {rh : Nat → Nat → Bool} {n f : Nat} {s0 s : SM} (hn : n ≤ 8) (hJ : JH L ok rh n f s0) (hf : Fr [] jA [] s0 s) {i : Nat} (hi : i < n) (hS : JS L ok rh i s) {K2 : Int32 → SM → Option SM} {v3 : Int32} {Q : SM → Prop} (h3 : v3 = mA s0 24 (3 * i)) (hk : ∀ s', Fr [] jA [] s0 s' → JS L ok rh (i + 1) s' → An (K2 (nI (i + 1)) s') Q) : An (F_X12_judges_b61 (nI f) K2 (nI i) v3 (encA (ja L ok rh i)) s) Q := by
  obtain ⟨-, w, h1, h2, -, h4⟩ := hJ
  obtain ⟨-, hm⟩ := h2 s hf
  obtain ⟨hw, hw16⟩ := h1 i hi
  have hmi := hm i hi
  have e := js_eq L ok rh i
  rw [hw] at h3
  subst h3
  have e24 := hf.2.1 24 (by decide)
  have e31 := hf.2.1 31 (by decide)
  have hja : ja L ok rh i ≤ i := near_le i
  have fin : ∀ (x5 x6 : Nat), x5 < 2 → x6 < 2 → js L ok rh i = (if x5 = 1 then (if ja L ok rh i = 0 then 1 else if x6 = 1 then 2 else 0) else 0) → (ja L ok rh i = 0 → x6 = 0) → An (F_X12_judges_b116 (nI f) K2 (nI i) (encA (ja L ok rh i)) (nI x5) s (nI x6)) Q := by
    intro x5 x6 h5 h6 ej h0
    rw [jb116 (by omega) (by omega) h5 h6 (nI f) K2 s _ rfl rfl rfl]
    unfold jfin
    refine hk _ (((hf.a 27 _ (by decide)).a 29 _ (by decide)).a 26 _ (by decide)) (hS.up rfl rfl rfl ?_ ?_ ?_)
    · rw [ej]
      by_cases a5 : x5 = 1
      · by_cases a0 : ja L ok rh i = 0
        · simp (disch := omega) only [and_true, true_and, and_false, false_and, or_true, true_or, or_false, false_or, not_true_eq_false, not_false_eq_true, nm_at, Option.bind_some, if_true, if_false, ↓k_m1, ↓k_m2, ↓k_m3, ↓k_m5, ↓k_m9, ↓k_m10, ↓k_mno, k_0, k_1, k_2, k_3, k_4, k_5, k_6, k_7, k_8, k_9, k_10, k_11, k_12, k_13, k_14, k_15, k_16, k_17, k_18, k_19, k_20, k_21, k_22, k_23, k_24, k_25, k_26, k_27, k_28, k_29, k_30, k_31, k_32, k_36, k_48, k_50, k_57, k_58, k_59, k_64, k_97, k_99, k_100, k_101, k_102, k_104, k_105, k_107, k_108, k_109, k_110, k_111, k_114, k_115, k_116, k_119, k_122, k_128, k_255, k_500, k_1000, k_1023, k_10000, k_100000, nI_add, nI_mul, nI_sub, nI_sub0, nI_leI, nI_ltI, nI_eq, nM_lt, nM_le, nM_nlt, nM_nle, nM_ne, nM_ne', nM_eq, q_ii, q_ia, q_ij, q_it, q_aa, q_ai, q_aj, q_at, q_jj, q_ji, q_ja, q_jt, q_tt, q_ti, q_ta, q_tj, u_at, uL_at, Nat.zero_mul, Nat.mul_zero, Nat.one_mul, Nat.mul_one, Nat.zero_add, Nat.add_zero, nI_toInt, agN, asN, agLN, asLN, atvN, setvN, if_pos, if_neg]
        · by_cases a6 : x6 = 1
          · have e2 : encA (ja L ok rh i) = nI (ja L ok rh i - 1) := if_neg a0
            rw [e2]
            simp (disch := omega) only [if_neg, nM_ne', and_true, true_and, and_false, false_and, or_true, true_or, or_false, false_or, not_true_eq_false, not_false_eq_true, nm_at, Option.bind_some, if_true, if_false, ↓k_m1, ↓k_m2, ↓k_m3, ↓k_m5, ↓k_m9, ↓k_m10, ↓k_mno, k_0, k_1, k_2, k_3, k_4, k_5, k_6, k_7, k_8, k_9, k_10, k_11, k_12, k_13, k_14, k_15, k_16, k_17, k_18, k_19, k_20, k_21, k_22, k_23, k_24, k_25, k_26, k_27, k_28, k_29, k_30, k_31, k_32, k_36, k_48, k_50, k_57, k_58, k_59, k_64, k_97, k_99, k_100, k_101, k_102, k_104, k_105, k_107, k_108, k_109, k_110, k_111, k_114, k_115, k_116, k_119, k_122, k_128, k_255, k_500, k_1000, k_1023, k_10000, k_100000, nI_add, nI_mul, nI_sub, nI_sub0, nI_leI, nI_ltI, nI_eq, nM_lt, nM_le, nM_nlt, nM_nle, nM_ne, nM_ne', nM_eq, q_ii, q_ia, q_ij, q_it, q_aa, q_ai, q_aj, q_at, q_jj, q_ji, q_ja, q_jt, q_tt, q_ti, q_ta, q_tj, u_at, uL_at, Nat.zero_mul, Nat.mul_zero, Nat.one_mul, Nat.mul_one, Nat.zero_add, Nat.add_zero, nI_toInt, agN, asN, agLN, asLN, atvN, setvN, if_pos, if_neg]
          · simp (disch := omega) only [and_true, true_and, and_false, false_and, or_true, true_or, or_false, false_or, not_true_eq_false, not_false_eq_true, nm_at, Option.bind_some, if_true, if_false, ↓k_m1, ↓k_m2, ↓k_m3, ↓k_m5, ↓k_m9, ↓k_m10, ↓k_mno, k_0, k_1, k_2, k_3, k_4, k_5, k_6, k_7, k_8, k_9, k_10, k_11, k_12, k_13, k_14, k_15, k_16, k_17, k_18, k_19, k_20, k_21, k_22, k_23, k_24, k_25, k_26, k_27, k_28, k_29, k_30, k_31, k_32, k_36, k_48, k_50, k_57, k_58, k_59, k_64, k_97, k_99, k_100, k_101, k_102, k_104, k_105, k_107, k_108, k_109, k_110, k_111, k_114, k_115, k_116, k_119, k_122, k_128, k_255, k_500, k_1000, k_1023, k_10000, k_100000, nI_add, nI_mul, nI_sub, nI_sub0, nI_leI, nI_ltI, nI_eq, nM_lt, nM_le, nM_nlt, nM_nle, nM_ne, nM_ne', nM_eq, q_ii, q_ia, q_ij, q_it, q_aa, q_ai, q_aj, q_at, q_jj, q_ji, q_ja, q_jt, q_tt, q_ti, q_ta, q_tj, u_at, uL_at, Nat.zero_mul, Nat.mul_zero, Nat.one_mul, Nat.mul_one, Nat.zero_add, Nat.add_zero, nI_toInt, agN, asN, agLN, asLN, atvN, setvN, if_pos, if_neg]
      · simp (disch := omega) only [and_true, true_and, and_false, false_and, or_true, true_or, or_false, false_or, not_true_eq_false, not_false_eq_true, nm_at, Option.bind_some, if_true, if_false, ↓k_m1, ↓k_m2, ↓k_m3, ↓k_m5, ↓k_m9, ↓k_m10, ↓k_mno, k_0, k_1, k_2, k_3, k_4, k_5, k_6, k_7, k_8, k_9, k_10, k_11, k_12, k_13, k_14, k_15, k_16, k_17, k_18, k_19, k_20, k_21, k_22, k_23, k_24, k_25, k_26, k_27, k_28, k_29, k_30, k_31, k_32, k_36, k_48, k_50, k_57, k_58, k_59, k_64, k_97, k_99, k_100, k_101, k_102, k_104, k_105, k_107, k_108, k_109, k_110, k_111, k_114, k_115, k_116, k_119, k_122, k_128, k_255, k_500, k_1000, k_1023, k_10000, k_100000, nI_add, nI_mul, nI_sub, nI_sub0, nI_leI, nI_ltI, nI_eq, nM_lt, nM_le, nM_nlt, nM_nle, nM_ne, nM_ne', nM_eq, q_ii, q_ia, q_ij, q_it, q_aa, q_ai, q_aj, q_at, q_jj, q_ji, q_ja, q_jt, q_tt, q_ti, q_ta, q_tj, u_at, uL_at, Nat.zero_mul, Nat.mul_zero, Nat.one_mul, Nat.mul_one, Nat.zero_add, Nat.add_zero, nI_toInt, agN, asN, agLN, asLN, atvN, setvN, if_pos, if_neg]
    · rw [ej]
      by_cases a5 : x5 = 1
      · by_cases a0 : ja L ok rh i = 0
        · simp (disch := omega) only [and_true, true_and, and_false, false_and, or_true, true_or, or_false, false_or, not_true_eq_false, not_false_eq_true, nm_at, Option.bind_some, if_true, if_false, ↓k_m1, ↓k_m2, ↓k_m3, ↓k_m5, ↓k_m9, ↓k_m10, ↓k_mno, k_0, k_1, k_2, k_3, k_4, k_5, k_6, k_7, k_8, k_9, k_10, k_11, k_12, k_13, k_14, k_15, k_16, k_17, k_18, k_19, k_20, k_21, k_22, k_23, k_24, k_25, k_26, k_27, k_28, k_29, k_30, k_31, k_32, k_36, k_48, k_50, k_57, k_58, k_59, k_64, k_97, k_99, k_100, k_101, k_102, k_104, k_105, k_107, k_108, k_109, k_110, k_111, k_114, k_115, k_116, k_119, k_122, k_128, k_255, k_500, k_1000, k_1023, k_10000, k_100000, nI_add, nI_mul, nI_sub, nI_sub0, nI_leI, nI_ltI, nI_eq, nM_lt, nM_le, nM_nlt, nM_nle, nM_ne, nM_ne', nM_eq, q_ii, q_ia, q_ij, q_it, q_aa, q_ai, q_aj, q_at, q_jj, q_ji, q_ja, q_jt, q_tt, q_ti, q_ta, q_tj, u_at, uL_at, Nat.zero_mul, Nat.mul_zero, Nat.one_mul, Nat.mul_one, Nat.zero_add, Nat.add_zero, nI_toInt, agN, asN, agLN, asLN, atvN, setvN, if_pos, if_neg]
        · by_cases a6 : x6 = 1
          · simp (disch := omega) only [and_true, true_and, and_false, false_and, or_true, true_or, or_false, false_or, not_true_eq_false, not_false_eq_true, nm_at, Option.bind_some, if_true, if_false, ↓k_m1, ↓k_m2, ↓k_m3, ↓k_m5, ↓k_m9, ↓k_m10, ↓k_mno, k_0, k_1, k_2, k_3, k_4, k_5, k_6, k_7, k_8, k_9, k_10, k_11, k_12, k_13, k_14, k_15, k_16, k_17, k_18, k_19, k_20, k_21, k_22, k_23, k_24, k_25, k_26, k_27, k_28, k_29, k_30, k_31, k_32, k_36, k_48, k_50, k_57, k_58, k_59, k_64, k_97, k_99, k_100, k_101, k_102, k_104, k_105, k_107, k_108, k_109, k_110, k_111, k_114, k_115, k_116, k_119, k_122, k_128, k_255, k_500, k_1000, k_1023, k_10000, k_100000, nI_add, nI_mul, nI_sub, nI_sub0, nI_leI, nI_ltI, nI_eq, nM_lt, nM_le, nM_nlt, nM_nle, nM_ne, nM_ne', nM_eq, q_ii, q_ia, q_ij, q_it, q_aa, q_ai, q_aj, q_at, q_jj, q_ji, q_ja, q_jt, q_tt, q_ti, q_ta, q_tj, u_at, uL_at, Nat.zero_mul, Nat.mul_zero, Nat.one_mul, Nat.mul_one, Nat.zero_add, Nat.add_zero, nI_toInt, agN, asN, agLN, asLN, atvN, setvN, if_pos, if_neg]
          · simp (disch := omega) only [and_true, true_and, and_false, false_and, or_true, true_or, or_false, false_or, not_true_eq_false, not_false_eq_true, nm_at, Option.bind_some, if_true, if_false, ↓k_m1, ↓k_m2, ↓k_m3, ↓k_m5, ↓k_m9, ↓k_m10, ↓k_mno, k_0, k_1, k_2, k_3, k_4, k_5, k_6, k_7, k_8, k_9, k_10, k_11, k_12, k_13, k_14, k_15, k_16, k_17, k_18, k_19, k_20, k_21, k_22, k_23, k_24, k_25, k_26, k_27, k_28, k_29, k_30, k_31, k_32, k_36, k_48, k_50, k_57, k_58, k_59, k_64, k_97, k_99, k_100, k_101, k_102, k_104, k_105, k_107, k_108, k_109, k_110, k_111, k_114, k_115, k_116, k_119, k_122, k_128, k_255, k_500, k_1000, k_1023, k_10000, k_100000, nI_add, nI_mul, nI_sub, nI_sub0, nI_leI, nI_ltI, nI_eq, nM_lt, nM_le, nM_nlt, nM_nle, nM_ne, nM_ne', nM_eq, q_ii, q_ia, q_ij, q_it, q_aa, q_ai, q_aj, q_at, q_jj, q_ji, q_ja, q_jt, q_tt, q_ti, q_ta, q_tj, u_at, uL_at, Nat.zero_mul, Nat.mul_zero, Nat.one_mul, Nat.mul_one, Nat.zero_add, Nat.add_zero, nI_toInt, agN, asN, agLN, asLN, atvN, setvN, if_pos, if_neg]
      · simp (disch := omega) only [and_true, true_and, and_false, false_and, or_true, true_or, or_false, false_or, not_true_eq_false, not_false_eq_true, nm_at, Option.bind_some, if_true, if_false, ↓k_m1, ↓k_m2, ↓k_m3, ↓k_m5, ↓k_m9, ↓k_m10, ↓k_mno, k_0, k_1, k_2, k_3, k_4, k_5, k_6, k_7, k_8, k_9, k_10, k_11, k_12, k_13, k_14, k_15, k_16, k_17, k_18, k_19, k_20, k_21, k_22, k_23, k_24, k_25, k_26, k_27, k_28, k_29, k_30, k_31, k_32, k_36, k_48, k_50, k_57, k_58, k_59, k_64, k_97, k_99, k_100, k_101, k_102, k_104, k_105, k_107, k_108, k_109, k_110, k_111, k_114, k_115, k_116, k_119, k_122, k_128, k_255, k_500, k_1000, k_1023, k_10000, k_100000, nI_add, nI_mul, nI_sub, nI_sub0, nI_leI, nI_ltI, nI_eq, nM_lt, nM_le, nM_nlt, nM_nle, nM_ne, nM_ne', nM_eq, q_ii, q_ia, q_ij, q_it, q_aa, q_ai, q_aj, q_at, q_jj, q_ji, q_ja, q_jt, q_tt, q_ti, q_ta, q_tj, u_at, uL_at, Nat.zero_mul, Nat.mul_zero, Nat.one_mul, Nat.mul_one, Nat.zero_add, Nat.add_zero, nI_toInt, agN, asN, agLN, asLN, atvN, setvN, if_pos, if_neg]
    · rw [ej]
      by_cases a5 : x5 = 1
      · by_cases a0 : ja L ok rh i = 0
        · simp (disch := omega) only [and_true, true_and, and_false, false_and, or_true, true_or, or_false, false_or, not_true_eq_false, not_false_eq_true, nm_at, Option.bind_some, if_true, if_false, ↓k_m1, ↓k_m2, ↓k_m3, ↓k_m5, ↓k_m9, ↓k_m10, ↓k_mno, k_0, k_1, k_2, k_3, k_4, k_5, k_6, k_7, k_8, k_9, k_10, k_11, k_12, k_13, k_14, k_15, k_16, k_17, k_18, k_19, k_20, k_21, k_22, k_23, k_24, k_25, k_26, k_27, k_28, k_29, k_30, k_31, k_32, k_36, k_48, k_50, k_57, k_58, k_59, k_64, k_97, k_99, k_100, k_101, k_102, k_104, k_105, k_107, k_108, k_109, k_110, k_111, k_114, k_115, k_116, k_119, k_122, k_128, k_255, k_500, k_1000, k_1023, k_10000, k_100000, nI_add, nI_mul, nI_sub, nI_sub0, nI_leI, nI_ltI, nI_eq, nM_lt, nM_le, nM_nlt, nM_nle, nM_ne, nM_ne', nM_eq, q_ii, q_ia, q_ij, q_it, q_aa, q_ai, q_aj, q_at, q_jj, q_ji, q_ja, q_jt, q_tt, q_ti, q_ta, q_tj, u_at, uL_at, Nat.zero_mul, Nat.mul_zero, Nat.one_mul, Nat.mul_one, Nat.zero_add, Nat.add_zero, nI_toInt, agN, asN, agLN, asLN, atvN, setvN, if_pos, if_neg]
        · by_cases a6 : x6 = 1
          · have e2 : encA (ja L ok rh i) = nI (ja L ok rh i - 1) := if_neg a0
            rw [e2]
            simp (disch := omega) only [and_true, true_and, and_false, false_and, or_true, true_or, or_false, false_or, not_true_eq_false, not_false_eq_true, nm_at, Option.bind_some, if_true, if_false, ↓k_m1, ↓k_m2, ↓k_m3, ↓k_m5, ↓k_m9, ↓k_m10, ↓k_mno, k_0, k_1, k_2, k_3, k_4, k_5, k_6, k_7, k_8, k_9, k_10, k_11, k_12, k_13, k_14, k_15, k_16, k_17, k_18, k_19, k_20, k_21, k_22, k_23, k_24, k_25, k_26, k_27, k_28, k_29, k_30, k_31, k_32, k_36, k_48, k_50, k_57, k_58, k_59, k_64, k_97, k_99, k_100, k_101, k_102, k_104, k_105, k_107, k_108, k_109, k_110, k_111, k_114, k_115, k_116, k_119, k_122, k_128, k_255, k_500, k_1000, k_1023, k_10000, k_100000, nI_add, nI_mul, nI_sub, nI_sub0, nI_leI, nI_ltI, nI_eq, nM_lt, nM_le, nM_nlt, nM_nle, nM_ne, nM_ne', nM_eq, q_ii, q_ia, q_ij, q_it, q_aa, q_ai, q_aj, q_at, q_jj, q_ji, q_ja, q_jt, q_tt, q_ti, q_ta, q_tj, u_at, uL_at, Nat.zero_mul, Nat.mul_zero, Nat.one_mul, Nat.mul_one, Nat.zero_add, Nat.add_zero, nI_toInt, agN, asN, agLN, asLN, atvN, setvN, if_pos, if_neg]
          · simp (disch := omega) only [and_true, true_and, and_false, false_and, or_true, true_or, or_false, false_or, not_true_eq_false, not_false_eq_true, nm_at, Option.bind_some, if_true, if_false, ↓k_m1, ↓k_m2, ↓k_m3, ↓k_m5, ↓k_m9, ↓k_m10, ↓k_mno, k_0, k_1, k_2, k_3, k_4, k_5, k_6, k_7, k_8, k_9, k_10, k_11, k_12, k_13, k_14, k_15, k_16, k_17, k_18, k_19, k_20, k_21, k_22, k_23, k_24, k_25, k_26, k_27, k_28, k_29, k_30, k_31, k_32, k_36, k_48, k_50, k_57, k_58, k_59, k_64, k_97, k_99, k_100, k_101, k_102, k_104, k_105, k_107, k_108, k_109, k_110, k_111, k_114, k_115, k_116, k_119, k_122, k_128, k_255, k_500, k_1000, k_1023, k_10000, k_100000, nI_add, nI_mul, nI_sub, nI_sub0, nI_leI, nI_ltI, nI_eq, nM_lt, nM_le, nM_nlt, nM_nle, nM_ne, nM_ne', nM_eq, q_ii, q_ia, q_ij, q_it, q_aa, q_ai, q_aj, q_at, q_jj, q_ji, q_ja, q_jt, q_tt, q_ti, q_ta, q_tj, u_at, uL_at, Nat.zero_mul, Nat.mul_zero, Nat.one_mul, Nat.mul_one, Nat.zero_add, Nat.add_zero, nI_toInt, agN, asN, agLN, asLN, atvN, setvN, if_pos, if_neg]
      · simp (disch := omega) only [and_true, true_and, and_false, false_and, or_true, true_or, or_false, false_or, not_true_eq_false, not_false_eq_true, nm_at, Option.bind_some, if_true, if_false, ↓k_m1, ↓k_m2, ↓k_m3, ↓k_m5, ↓k_m9, ↓k_m10, ↓k_mno, k_0, k_1, k_2, k_3, k_4, k_5, k_6, k_7, k_8, k_9, k_10, k_11, k_12, k_13, k_14, k_15, k_16, k_17, k_18, k_19, k_20, k_21, k_22, k_23, k_24, k_25, k_26, k_27, k_28, k_29, k_30, k_31, k_32, k_36, k_48, k_50, k_57, k_58, k_59, k_64, k_97, k_99, k_100, k_101, k_102, k_104, k_105, k_107, k_108, k_109, k_110, k_111, k_114, k_115, k_116, k_119, k_122, k_128, k_255, k_500, k_1000, k_1023, k_10000, k_100000, nI_add, nI_mul, nI_sub, nI_sub0, nI_leI, nI_ltI, nI_eq, nM_lt, nM_le, nM_nlt, nM_nle, nM_ne, nM_ne', nM_eq, q_ii, q_ia, q_ij, q_it, q_aa, q_ai, q_aj, q_at, q_jj, q_ji, q_ja, q_jt, q_tt, q_ti, q_ta, q_tj, u_at, uL_at, Nat.zero_mul, Nat.mul_zero, Nat.one_mul, Nat.mul_one, Nat.zero_add, Nat.add_zero, nI_toInt, agN, asN, agLN, asLN, atvN, setvN, if_pos, if_neg]
  unfold F_X12_judges_b61 F_X12_judges_b115
  obtain ⟨x5, h5, ex5, hx5⟩ : ∃ x5, x5 < 2 ∧ (if ok i = true then nI 1 else nI 0) = nI x5 ∧ (ok i = true ↔ x5 = 1) := by
    by_cases c : ok i = true
    · exact ⟨1, by omega, if_pos c, ⟨fun _ => rfl, fun _ => c⟩⟩
    · exact ⟨0, by omega, if_neg c, ⟨fun z => absurd z c, fun z => by omega⟩⟩
  rw [ex5] at hmi
  rw [hmi]
  simp only [Option.bind_some, nm_at]
  by_cases d : ja L ok rh i = 0
  · have e2 : encA (ja L ok rh i) = nM 1 := if_pos d
    have fin1 := fin x5 0 h5 (by omega) (by rw [e, if_pos d, if_pos d]; by_cases c : ok i = true; exact (if_pos c).trans (if_pos (hx5.mp c)).symm; exact (if_neg c).trans (if_neg (fun z => c (hx5.mpr z))).symm) (fun _ => rfl)
    rw [e2] at fin1 ⊢
    simp (disch := omega) only [and_true, true_and, and_false, false_and, or_true, true_or, or_false, false_or, not_true_eq_false, not_false_eq_true, nm_at, Option.bind_some, if_true, if_false, ↓k_m1, ↓k_m2, ↓k_m3, ↓k_m5, ↓k_m9, ↓k_m10, ↓k_mno, k_0, k_1, k_2, k_3, k_4, k_5, k_6, k_7, k_8, k_9, k_10, k_11, k_12, k_13, k_14, k_15, k_16, k_17, k_18, k_19, k_20, k_21, k_22, k_23, k_24, k_25, k_26, k_27, k_28, k_29, k_30, k_31, k_32, k_36, k_48, k_50, k_57, k_58, k_59, k_64, k_97, k_99, k_100, k_101, k_102, k_104, k_105, k_107, k_108, k_109, k_110, k_111, k_114, k_115, k_116, k_119, k_122, k_128, k_255, k_500, k_1000, k_1023, k_10000, k_100000, nI_add, nI_mul, nI_sub, nI_sub0, nI_leI, nI_ltI, nI_eq, nM_lt, nM_le, nM_nlt, nM_nle, nM_ne, nM_ne', nM_eq, q_ii, q_ia, q_ij, q_it, q_aa, q_ai, q_aj, q_at, q_jj, q_ji, q_ja, q_jt, q_tt, q_ti, q_ta, q_tj, u_at, uL_at, Nat.zero_mul, Nat.mul_zero, Nat.one_mul, Nat.mul_one, Nat.zero_add, Nat.add_zero, nI_toInt, agN, asN, agLN, asLN, atvN, setvN, if_pos, if_neg]
    exact fin1
  · obtain ⟨a, ha⟩ : ∃ a, ja L ok rh i = a + 1 := ⟨ja L ok rh i - 1, by omega⟩
    obtain ⟨ha1, -, -⟩ := ja_at ha
    obtain ⟨hwa, hwa16⟩ := h1 a (by omega)
    have hr := h4 a i ha1 hi
    rw [if_neg d] at e
    rw [show ja L ok rh i - 1 = a from by omega] at e
    have e2 : encA (ja L ok rh i) = nI a := by unfold encA; rw [ha, if_neg (by omega)]; exact congrArg nI (by omega)
    have fin0 : rh a i = false → An (F_X12_judges_b116 (nI f) K2 (nI i) (encA (ja L ok rh i)) (nI x5) s (nI 0)) Q := by
      intro r
      refine fin x5 0 h5 (by omega) ?_ (fun _ => rfl)
      rw [e, if_neg d, r]
      by_cases c : ok i = true
      · rw [if_pos c, if_pos (hx5.mp c)]; rfl
      · rw [if_neg c, if_neg (fun z => c (hx5.mpr z))]
    have fin1 : rh a i = true → An (F_X12_judges_b116 (nI f) K2 (nI i) (encA (ja L ok rh i)) (nI x5) s (nI 1)) Q := by
      intro r
      refine fin x5 1 h5 (by omega) ?_ (fun z => absurd z d)
      rw [e, if_neg d, r]
      by_cases c : ok i = true
      · rw [if_pos c, if_pos (hx5.mp c)]; rfl
      · rw [if_neg c, if_neg (fun z => c (hx5.mpr z))]
    rw [e2] at fin0 fin1 ⊢
    by_cases r1 : w a = w i
    · have r : rh a i = false := by
        cases q : rh a i
        · rfl
        · exact absurd r1 (hr.mp q).1
      simp (disch := omega) only [e24, hwa, and_true, true_and, and_false, false_and, or_true, true_or, or_false, false_or, not_true_eq_false, not_false_eq_true, nm_at, Option.bind_some, if_true, if_false, ↓k_m1, ↓k_m2, ↓k_m3, ↓k_m5, ↓k_m9, ↓k_m10, ↓k_mno, k_0, k_1, k_2, k_3, k_4, k_5, k_6, k_7, k_8, k_9, k_10, k_11, k_12, k_13, k_14, k_15, k_16, k_17, k_18, k_19, k_20, k_21, k_22, k_23, k_24, k_25, k_26, k_27, k_28, k_29, k_30, k_31, k_32, k_36, k_48, k_50, k_57, k_58, k_59, k_64, k_97, k_99, k_100, k_101, k_102, k_104, k_105, k_107, k_108, k_109, k_110, k_111, k_114, k_115, k_116, k_119, k_122, k_128, k_255, k_500, k_1000, k_1023, k_10000, k_100000, nI_add, nI_mul, nI_sub, nI_sub0, nI_leI, nI_ltI, nI_eq, nM_lt, nM_le, nM_nlt, nM_nle, nM_ne, nM_ne', nM_eq, q_ii, q_ia, q_ij, q_it, q_aa, q_ai, q_aj, q_at, q_jj, q_ji, q_ja, q_jt, q_tt, q_ti, q_ta, q_tj, u_at, uL_at, Nat.zero_mul, Nat.mul_zero, Nat.one_mul, Nat.mul_one, Nat.zero_add, Nat.add_zero, nI_toInt, agN, asN, agLN, asLN, atvN, setvN, if_pos, if_neg]
      exact fin0 r
    · by_cases r2 : mA s0 31 (w a) = mA s0 31 (w i)
      · simp (disch := omega) only [e24, e31, hwa, if_pos r2, and_true, true_and, and_false, false_and, or_true, true_or, or_false, false_or, not_true_eq_false, not_false_eq_true, nm_at, Option.bind_some, if_true, if_false, ↓k_m1, ↓k_m2, ↓k_m3, ↓k_m5, ↓k_m9, ↓k_m10, ↓k_mno, k_0, k_1, k_2, k_3, k_4, k_5, k_6, k_7, k_8, k_9, k_10, k_11, k_12, k_13, k_14, k_15, k_16, k_17, k_18, k_19, k_20, k_21, k_22, k_23, k_24, k_25, k_26, k_27, k_28, k_29, k_30, k_31, k_32, k_36, k_48, k_50, k_57, k_58, k_59, k_64, k_97, k_99, k_100, k_101, k_102, k_104, k_105, k_107, k_108, k_109, k_110, k_111, k_114, k_115, k_116, k_119, k_122, k_128, k_255, k_500, k_1000, k_1023, k_10000, k_100000, nI_add, nI_mul, nI_sub, nI_sub0, nI_leI, nI_ltI, nI_eq, nM_lt, nM_le, nM_nlt, nM_nle, nM_ne, nM_ne', nM_eq, q_ii, q_ia, q_ij, q_it, q_aa, q_ai, q_aj, q_at, q_jj, q_ji, q_ja, q_jt, q_tt, q_ti, q_ta, q_tj, u_at, uL_at, Nat.zero_mul, Nat.mul_zero, Nat.one_mul, Nat.mul_one, Nat.zero_add, Nat.add_zero, nI_toInt, agN, asN, agLN, asLN, atvN, setvN, if_pos, if_neg]
        exact fin1 (hr.mpr ⟨r1, r2⟩)
      · have r : rh a i = false := by
          cases q : rh a i
          · rfl
          · exact absurd (hr.mp q).2 r2
        simp (disch := omega) only [e24, e31, hwa, if_neg r2, and_true, true_and, and_false, false_and, or_true, true_or, or_false, false_or, not_true_eq_false, not_false_eq_true, nm_at, Option.bind_some, if_true, if_false, ↓k_m1, ↓k_m2, ↓k_m3, ↓k_m5, ↓k_m9, ↓k_m10, ↓k_mno, k_0, k_1, k_2, k_3, k_4, k_5, k_6, k_7, k_8, k_9, k_10, k_11, k_12, k_13, k_14, k_15, k_16, k_17, k_18, k_19, k_20, k_21, k_22, k_23, k_24, k_25, k_26, k_27, k_28, k_29, k_30, k_31, k_32, k_36, k_48, k_50, k_57, k_58, k_59, k_64, k_97, k_99, k_100, k_101, k_102, k_104, k_105, k_107, k_108, k_109, k_110, k_111, k_114, k_115, k_116, k_119, k_122, k_128, k_255, k_500, k_1000, k_1023, k_10000, k_100000, nI_add, nI_mul, nI_sub, nI_sub0, nI_leI, nI_ltI, nI_eq, nM_lt, nM_le, nM_nlt, nM_nle, nM_ne, nM_ne', nM_eq, q_ii, q_ia, q_ij, q_it, q_aa, q_ai, q_aj, q_at, q_jj, q_ji, q_ja, q_jt, q_tt, q_ti, q_ta, q_tj, u_at, uL_at, Nat.zero_mul, Nat.mul_zero, Nat.one_mul, Nat.mul_one, Nat.zero_add, Nat.add_zero, nI_toInt, agN, asN, agLN, asLN, atvN, setvN, if_pos, if_neg]
        exact fin0 r
/-- whether a line is the anchor of one: what holds answers -/
def holdP (n i x : Nat) (s : SM) (r : Int32) : Prop := (r = nI 0 ∨ r = nI 1) ∧ (r = nI 1 ↔ ∃ k, i < k ∧ k < n ∧ mA s 29 k = nI i ∧ (x = 0 ∨ mA s 30 k = nI 0))
theorem holds_t {n i x : Nat} {s : SM} (hn : n ≤ 8) (hi : i < n) (h25 : mI s 25 = nI n) (hx : x < 2) : An (F_X12_holds s (nI i) (nI x)) (holdP n i x s) := by
  unfold F_X12_holds
  simp (disch := omega) only [and_true, true_and, and_false, false_and, or_true, true_or, or_false, false_or, not_true_eq_false, not_false_eq_true, nm_at, Option.bind_some, if_true, if_false, ↓k_m1, ↓k_m2, ↓k_m3, ↓k_m5, ↓k_m9, ↓k_m10, ↓k_mno, k_0, k_1, k_2, k_3, k_4, k_5, k_6, k_7, k_8, k_9, k_10, k_11, k_12, k_13, k_14, k_15, k_16, k_17, k_18, k_19, k_20, k_21, k_22, k_23, k_24, k_25, k_26, k_27, k_28, k_29, k_30, k_31, k_32, k_36, k_48, k_50, k_57, k_58, k_59, k_64, k_97, k_99, k_100, k_101, k_102, k_104, k_105, k_107, k_108, k_109, k_110, k_111, k_114, k_115, k_116, k_119, k_122, k_128, k_255, k_500, k_1000, k_1023, k_10000, k_100000, nI_add, nI_mul, nI_sub, nI_sub0, nI_leI, nI_ltI, nI_eq, nM_lt, nM_le, nM_nlt, nM_nle, nM_ne, nM_ne', nM_eq, q_ii, q_ia, q_ij, q_it, q_aa, q_ai, q_aj, q_at, q_jj, q_ji, q_ja, q_jt, q_tt, q_ti, q_ta, q_tj, u_at, uL_at, Nat.zero_mul, Nat.mul_zero, Nat.one_mul, Nat.mul_one, Nat.zero_add, Nat.add_zero, nI_toInt, agN, asN, agLN, asLN, atvN, setvN, if_pos, if_neg]
  have key : ∀ r : Int32, (r = nI 0 ∨ r = nI 1) ∧ (r = nI 1 ↔ ∃ k, i < k ∧ k < i + 1 ∧ mA s 29 k = nI i ∧ (x = 0 ∨ mA s 30 k = nI 0)) ↔ r = nI 0 := by
    intro r
    constructor
    · rintro ⟨h1 | h1, h2⟩
      · exact h1
      · obtain ⟨k, _, _, _⟩ := h2.mp h1; omega
    · intro h
      refine ⟨Or.inl h, ?_⟩
      constructor
      · intro h1; rw [h] at h1; exact absurd h1 (by decide)
      · rintro ⟨k, _, _, _⟩; omega
  refine lp_up (fun q v (r : Int32) => F_X12_holds_b7 s (nI i) (nI x) q r v) n (fun m r => i < m ∧ (r = nI 0 ∨ r = nI 1) ∧ (r = nI 1 ↔ ∃ k, i < k ∧ k < m ∧ mA s 29 k = nI i ∧ (x = 0 ∨ mA s 30 k = nI 0))) _ ?_ ?_ fu (i + 1) (nI 0) (by omega) (by unfold fu; omega) ⟨by omega, (key _).mpr rfl⟩
  · intro q m r hm ⟨h0, h1, h2⟩ hK
    have step : ∀ r' : Int32, (r' = nI 0 ∨ r' = nI 1) → (r' = nI 1 ↔ r = nI 1 ∨ (mA s 29 m = nI i ∧ (x = 0 ∨ mA s 30 m = nI 0))) → An (F_X12_holds_b7 s (nI i) (nI x) q r' (nI (m + 1))) (holdP n i x s) := by
      intro r' g1 g2
      refine hK r' ⟨by omega, g1, ?_⟩
      rw [g2, h2]
      constructor
      · rintro (⟨k, k1, k2, k3⟩ | g)
        · exact ⟨k, k1, by omega, k3⟩
        · exact ⟨m, h0, by omega, g⟩
      · rintro ⟨k, k1, k2, k3⟩
        by_cases e : k = m
        · exact Or.inr (e ▸ k3)
        · exact Or.inl ⟨k, k1, by omega, k3⟩
    show An (F_X12_holds_b7 s (nI i) (nI x) (q + 1) r (nI m)) _
    rw [F_X12_holds_b7, h25]
    unfold F_X12_holds_b45 F_X12_holds_b49 F_X12_holds_b50
    rcases h1 with h1 | h1
    · subst h1
      have n01 : ¬ nI 0 = nI 1 := by decide
      by_cases c : mA s 29 m = nI i
      · by_cases d : x = 0
        · subst d
          simp (disch := omega) only [c, and_true, true_and, and_false, false_and, or_true, true_or, or_false, false_or, not_true_eq_false, not_false_eq_true, nm_at, Option.bind_some, if_true, if_false, ↓k_m1, ↓k_m2, ↓k_m3, ↓k_m5, ↓k_m9, ↓k_m10, ↓k_mno, k_0, k_1, k_2, k_3, k_4, k_5, k_6, k_7, k_8, k_9, k_10, k_11, k_12, k_13, k_14, k_15, k_16, k_17, k_18, k_19, k_20, k_21, k_22, k_23, k_24, k_25, k_26, k_27, k_28, k_29, k_30, k_31, k_32, k_36, k_48, k_50, k_57, k_58, k_59, k_64, k_97, k_99, k_100, k_101, k_102, k_104, k_105, k_107, k_108, k_109, k_110, k_111, k_114, k_115, k_116, k_119, k_122, k_128, k_255, k_500, k_1000, k_1023, k_10000, k_100000, nI_add, nI_mul, nI_sub, nI_sub0, nI_leI, nI_ltI, nI_eq, nM_lt, nM_le, nM_nlt, nM_nle, nM_ne, nM_ne', nM_eq, q_ii, q_ia, q_ij, q_it, q_aa, q_ai, q_aj, q_at, q_jj, q_ji, q_ja, q_jt, q_tt, q_ti, q_ta, q_tj, u_at, uL_at, Nat.zero_mul, Nat.mul_zero, Nat.one_mul, Nat.mul_one, Nat.zero_add, Nat.add_zero, nI_toInt, agN, asN, agLN, asLN, atvN, setvN, if_pos, if_neg]
          exact step _ (Or.inr rfl) ⟨fun _ => Or.inr ⟨c, Or.inl rfl⟩, fun _ => rfl⟩
        · by_cases e : mA s 30 m = nI 0
          · simp (disch := omega) only [c, e, and_true, true_and, and_false, false_and, or_true, true_or, or_false, false_or, not_true_eq_false, not_false_eq_true, nm_at, Option.bind_some, if_true, if_false, ↓k_m1, ↓k_m2, ↓k_m3, ↓k_m5, ↓k_m9, ↓k_m10, ↓k_mno, k_0, k_1, k_2, k_3, k_4, k_5, k_6, k_7, k_8, k_9, k_10, k_11, k_12, k_13, k_14, k_15, k_16, k_17, k_18, k_19, k_20, k_21, k_22, k_23, k_24, k_25, k_26, k_27, k_28, k_29, k_30, k_31, k_32, k_36, k_48, k_50, k_57, k_58, k_59, k_64, k_97, k_99, k_100, k_101, k_102, k_104, k_105, k_107, k_108, k_109, k_110, k_111, k_114, k_115, k_116, k_119, k_122, k_128, k_255, k_500, k_1000, k_1023, k_10000, k_100000, nI_add, nI_mul, nI_sub, nI_sub0, nI_leI, nI_ltI, nI_eq, nM_lt, nM_le, nM_nlt, nM_nle, nM_ne, nM_ne', nM_eq, q_ii, q_ia, q_ij, q_it, q_aa, q_ai, q_aj, q_at, q_jj, q_ji, q_ja, q_jt, q_tt, q_ti, q_ta, q_tj, u_at, uL_at, Nat.zero_mul, Nat.mul_zero, Nat.one_mul, Nat.mul_one, Nat.zero_add, Nat.add_zero, nI_toInt, agN, asN, agLN, asLN, atvN, setvN, if_pos, if_neg]
            exact step _ (Or.inr rfl) ⟨fun _ => Or.inr ⟨c, Or.inr e⟩, fun _ => rfl⟩
          · simp (disch := omega) only [c, if_neg e, and_true, true_and, and_false, false_and, or_true, true_or, or_false, false_or, not_true_eq_false, not_false_eq_true, nm_at, Option.bind_some, if_true, if_false, ↓k_m1, ↓k_m2, ↓k_m3, ↓k_m5, ↓k_m9, ↓k_m10, ↓k_mno, k_0, k_1, k_2, k_3, k_4, k_5, k_6, k_7, k_8, k_9, k_10, k_11, k_12, k_13, k_14, k_15, k_16, k_17, k_18, k_19, k_20, k_21, k_22, k_23, k_24, k_25, k_26, k_27, k_28, k_29, k_30, k_31, k_32, k_36, k_48, k_50, k_57, k_58, k_59, k_64, k_97, k_99, k_100, k_101, k_102, k_104, k_105, k_107, k_108, k_109, k_110, k_111, k_114, k_115, k_116, k_119, k_122, k_128, k_255, k_500, k_1000, k_1023, k_10000, k_100000, nI_add, nI_mul, nI_sub, nI_sub0, nI_leI, nI_ltI, nI_eq, nM_lt, nM_le, nM_nlt, nM_nle, nM_ne, nM_ne', nM_eq, q_ii, q_ia, q_ij, q_it, q_aa, q_ai, q_aj, q_at, q_jj, q_ji, q_ja, q_jt, q_tt, q_ti, q_ta, q_tj, u_at, uL_at, Nat.zero_mul, Nat.mul_zero, Nat.one_mul, Nat.mul_one, Nat.zero_add, Nat.add_zero, nI_toInt, agN, asN, agLN, asLN, atvN, setvN, if_pos, if_neg]
            refine step _ (Or.inl rfl) ⟨fun z => absurd z n01, ?_⟩
            rintro (z | ⟨_, z | z⟩)
            · exact z
            · exact absurd z d
            · exact absurd z e
      · simp (disch := omega) only [if_neg c, and_true, true_and, and_false, false_and, or_true, true_or, or_false, false_or, not_true_eq_false, not_false_eq_true, nm_at, Option.bind_some, if_true, if_false, ↓k_m1, ↓k_m2, ↓k_m3, ↓k_m5, ↓k_m9, ↓k_m10, ↓k_mno, k_0, k_1, k_2, k_3, k_4, k_5, k_6, k_7, k_8, k_9, k_10, k_11, k_12, k_13, k_14, k_15, k_16, k_17, k_18, k_19, k_20, k_21, k_22, k_23, k_24, k_25, k_26, k_27, k_28, k_29, k_30, k_31, k_32, k_36, k_48, k_50, k_57, k_58, k_59, k_64, k_97, k_99, k_100, k_101, k_102, k_104, k_105, k_107, k_108, k_109, k_110, k_111, k_114, k_115, k_116, k_119, k_122, k_128, k_255, k_500, k_1000, k_1023, k_10000, k_100000, nI_add, nI_mul, nI_sub, nI_sub0, nI_leI, nI_ltI, nI_eq, nM_lt, nM_le, nM_nlt, nM_nle, nM_ne, nM_ne', nM_eq, q_ii, q_ia, q_ij, q_it, q_aa, q_ai, q_aj, q_at, q_jj, q_ji, q_ja, q_jt, q_tt, q_ti, q_ta, q_tj, u_at, uL_at, Nat.zero_mul, Nat.mul_zero, Nat.one_mul, Nat.mul_one, Nat.zero_add, Nat.add_zero, nI_toInt, agN, asN, agLN, asLN, atvN, setvN, if_pos, if_neg]
        refine step _ (Or.inl rfl) ⟨fun z => absurd z n01, ?_⟩
        rintro (z | ⟨z, _⟩)
        · exact z
        · exact absurd z c
    · subst h1
      simp (disch := omega) only [and_true, true_and, and_false, false_and, or_true, true_or, or_false, false_or, not_true_eq_false, not_false_eq_true, nm_at, Option.bind_some, if_true, if_false, ↓k_m1, ↓k_m2, ↓k_m3, ↓k_m5, ↓k_m9, ↓k_m10, ↓k_mno, k_0, k_1, k_2, k_3, k_4, k_5, k_6, k_7, k_8, k_9, k_10, k_11, k_12, k_13, k_14, k_15, k_16, k_17, k_18, k_19, k_20, k_21, k_22, k_23, k_24, k_25, k_26, k_27, k_28, k_29, k_30, k_31, k_32, k_36, k_48, k_50, k_57, k_58, k_59, k_64, k_97, k_99, k_100, k_101, k_102, k_104, k_105, k_107, k_108, k_109, k_110, k_111, k_114, k_115, k_116, k_119, k_122, k_128, k_255, k_500, k_1000, k_1023, k_10000, k_100000, nI_add, nI_mul, nI_sub, nI_sub0, nI_leI, nI_ltI, nI_eq, nM_lt, nM_le, nM_nlt, nM_nle, nM_ne, nM_ne', nM_eq, q_ii, q_ia, q_ij, q_it, q_aa, q_ai, q_aj, q_at, q_jj, q_ji, q_ja, q_jt, q_tt, q_ti, q_ta, q_tj, u_at, uL_at, Nat.zero_mul, Nat.mul_zero, Nat.one_mul, Nat.mul_one, Nat.zero_add, Nat.add_zero, nI_toInt, agN, asN, agLN, asLN, atvN, setvN, if_pos, if_neg]
      exact step _ (Or.inr rfl) ⟨fun _ => Or.inl rfl, fun _ => rfl⟩
  · intro q r ⟨h0, h1, h2⟩
    show An (F_X12_holds_b7 s (nI i) (nI x) (q + 1) r (nI n)) _
    rw [F_X12_holds_b7, h25]
    have hz : zb r = some r := by
      rcases h1 with h1 | h1 <;> rw [h1] <;> rfl
    simp (disch := omega) only [hz, and_true, true_and, and_false, false_and, or_true, true_or, or_false, false_or, not_true_eq_false, not_false_eq_true, nm_at, Option.bind_some, if_true, if_false, ↓k_m1, ↓k_m2, ↓k_m3, ↓k_m5, ↓k_m9, ↓k_m10, ↓k_mno, k_0, k_1, k_2, k_3, k_4, k_5, k_6, k_7, k_8, k_9, k_10, k_11, k_12, k_13, k_14, k_15, k_16, k_17, k_18, k_19, k_20, k_21, k_22, k_23, k_24, k_25, k_26, k_27, k_28, k_29, k_30, k_31, k_32, k_36, k_48, k_50, k_57, k_58, k_59, k_64, k_97, k_99, k_100, k_101, k_102, k_104, k_105, k_107, k_108, k_109, k_110, k_111, k_114, k_115, k_116, k_119, k_122, k_128, k_255, k_500, k_1000, k_1023, k_10000, k_100000, nI_add, nI_mul, nI_sub, nI_sub0, nI_leI, nI_ltI, nI_eq, nM_lt, nM_le, nM_nlt, nM_nle, nM_ne, nM_ne', nM_eq, q_ii, q_ia, q_ij, q_it, q_aa, q_ai, q_aj, q_at, q_jj, q_ji, q_ja, q_jt, q_tt, q_ti, q_ta, q_tj, u_at, uL_at, Nat.zero_mul, Nat.mul_zero, Nat.one_mul, Nat.mul_one, Nat.zero_add, Nat.add_zero, nI_toInt, agN, asN, agLN, asLN, atvN, setvN, if_pos, if_neg]
    exact An_some ⟨h1, h2⟩
/-- all that the judging leaves -/
def JJ (L : Nat → Nat) (ok : Nat → Bool) (rh : Nat → Nat → Bool) (n : Nat) (s : SM) : Prop := JS L ok rh n s ∧ ∀ j, j < n → (mA s 28 j = nI 0 ∨ mA s 28 j = nI 1) ∧ (mA s 28 j = nI 1 ↔ bnd L ok rh n j)
theorem JS_fr {L : Nat → Nat} {ok : Nat → Bool} {rh : Nat → Nat → Bool} {i : Nat} {s s' : SM} (h : JS L ok rh i s) (hf : Fr [] [28] [] s s') : JS L ok rh i s' := by
  intro j hj
  rw [hf.2.1 26 (by decide), hf.2.1 27 (by decide), hf.2.1 29 (by decide)]
  exact h j hj
/-- the anchor's row tells the anchors -/
theorem JS_anc {L : Nat → Nat} {ok : Nat → Bool} {rh : Nat → Nat → Bool} {n : Nat} {s : SM} (hn : n ≤ 8) (h : JS L ok rh n s) {k i : Nat} (hk : k < n) (hi : i < n) : mA s 29 k = nI i ↔ js L ok rh k = 2 ∧ ja L ok rh k = i + 1 := by
  obtain ⟨-, -, e⟩ := h k hk
  rw [e]
  by_cases c : js L ok rh k = 2
  · rw [if_pos c]
    obtain ⟨a, ha, ha2, -⟩ := js_ja c
    rw [ha, nI_eq (by omega) (by omega)]
    constructor
    · intro z; exact ⟨c, by omega⟩
    · intro z; omega
  · rw [if_neg c]
    constructor
    · intro z; rw [nM_ne (by omega) (by omega) (by omega)] at z; exact z.elim
    · intro z; exact absurd z.1 c
theorem judges_t {L : Nat → Nat} {ok : Nat → Bool} {rh : Nat → Nat → Bool} {n f : Nat} {s0 : SM} (hn : n ≤ 8) (hJ : JH L ok rh n f s0) : An (F_X12_judges s0 (nI f)) (fun s => Fr [] jA [] s0 s ∧ JJ L ok rh n s) := by
  unfold F_X12_judges
  simp (disch := omega) only [and_true, true_and, and_false, false_and, or_true, true_or, or_false, false_or, not_true_eq_false, not_false_eq_true, nm_at, Option.bind_some, if_true, if_false, ↓k_m1, ↓k_m2, ↓k_m3, ↓k_m5, ↓k_m9, ↓k_m10, ↓k_mno, k_0, k_1, k_2, k_3, k_4, k_5, k_6, k_7, k_8, k_9, k_10, k_11, k_12, k_13, k_14, k_15, k_16, k_17, k_18, k_19, k_20, k_21, k_22, k_23, k_24, k_25, k_26, k_27, k_28, k_29, k_30, k_31, k_32, k_36, k_48, k_50, k_57, k_58, k_59, k_64, k_97, k_99, k_100, k_101, k_102, k_104, k_105, k_107, k_108, k_109, k_110, k_111, k_114, k_115, k_116, k_119, k_122, k_128, k_255, k_500, k_1000, k_1023, k_10000, k_100000, nI_add, nI_mul, nI_sub, nI_sub0, nI_leI, nI_ltI, nI_eq, nM_lt, nM_le, nM_nlt, nM_nle, nM_ne, nM_ne', nM_eq, q_ii, q_ia, q_ij, q_it, q_aa, q_ai, q_aj, q_at, q_jj, q_ji, q_ja, q_jt, q_tt, q_ti, q_ta, q_tj, u_at, uL_at, Nat.zero_mul, Nat.mul_zero, Nat.one_mul, Nat.mul_one, Nat.zero_add, Nat.add_zero, nI_toInt, agN, asN, agLN, asLN, atvN, setvN, if_pos, if_neg]
  have h25 := hJ.1
  refine lp_up (fun q v s => F_X12_judges_b2 (nI f) q v s) n (fun i s => Fr [] jA [] s0 s ∧ JS L ok rh i s) _ ?_ ?_ fu 0 s0 (by omega) (by unfold fu; omega) ⟨Fr.rf _, fun j hj => by omega⟩
  · intro q i s hi ⟨h1, h2⟩ hK
    show An (F_X12_judges_b2 (nI f) (q + 1) (nI i) s) _
    have e24 := h1.2.1 24 (by decide)
    have e25 := h1.1 25 (by decide)
    rw [F_X12_judges_b2, e25, h25]
    have hl := ahead_lp (K2 := F_X12_judges_b2 (nI f) q) hn hJ h1 hi h2 (v3 := mA s0 24 (3 * i)) (val_lp hn hJ h1 hi h2 rfl fun s' g1 g2 => hK s' ⟨g1, g2⟩)
    rw [if_neg (nI_ge hi (by omega))]
    rw [show (3 : Int32) * nI i = nI (3 * i) from nI_mul 3 i, agN (by omega) (by omega), e24]
    simp only [Option.bind_some, nm_at]
    exact hl
  · intro q s ⟨h1, h2⟩
    have e25 := h1.1 25 (by decide)
    show An (F_X12_judges_b2 (nI f) (q + 1) (nI n) s) _
    rw [F_X12_judges_b2, e25, h25]
    simp (disch := omega) only [and_true, true_and, and_false, false_and, or_true, true_or, or_false, false_or, not_true_eq_false, not_false_eq_true, nm_at, Option.bind_some, if_true, if_false, ↓k_m1, ↓k_m2, ↓k_m3, ↓k_m5, ↓k_m9, ↓k_m10, ↓k_mno, k_0, k_1, k_2, k_3, k_4, k_5, k_6, k_7, k_8, k_9, k_10, k_11, k_12, k_13, k_14, k_15, k_16, k_17, k_18, k_19, k_20, k_21, k_22, k_23, k_24, k_25, k_26, k_27, k_28, k_29, k_30, k_31, k_32, k_36, k_48, k_50, k_57, k_58, k_59, k_64, k_97, k_99, k_100, k_101, k_102, k_104, k_105, k_107, k_108, k_109, k_110, k_111, k_114, k_115, k_116, k_119, k_122, k_128, k_255, k_500, k_1000, k_1023, k_10000, k_100000, nI_add, nI_mul, nI_sub, nI_sub0, nI_leI, nI_ltI, nI_eq, nM_lt, nM_le, nM_nlt, nM_nle, nM_ne, nM_ne', nM_eq, q_ii, q_ia, q_ij, q_it, q_aa, q_ai, q_aj, q_at, q_jj, q_ji, q_ja, q_jt, q_tt, q_ti, q_ta, q_tj, u_at, uL_at, Nat.zero_mul, Nat.mul_zero, Nat.one_mul, Nat.mul_one, Nat.zero_add, Nat.add_zero, nI_toInt, agN, asN, agLN, asLN, atvN, setvN, if_pos, if_neg]
    refine lp_up (fun q v s => F_X12_judges_b201 (nI f) q v s) n (fun i s' => Fr [] [28] [] s s' ∧ ∀ j, j < i → (mA s' 28 j = nI 0 ∨ mA s' 28 j = nI 1) ∧ (mA s' 28 j = nI 1 ↔ bnd L ok rh n j)) _ ?_ ?_ fu 0 s (by omega) (by unfold fu; omega) ⟨Fr.rf _, fun j hj => by omega⟩
    · intro q i s' hi ⟨g1, g2⟩ hK
      have hS := JS_fr h2 g1
      obtain ⟨-, b2, b3⟩ := hS i hi
      have f25 : mI s' 25 = nI n := by rw [g1.1 25 (by decide), e25, h25]
      have fin : ∀ b : Nat, b < 2 → (b = 1 ↔ bnd L ok rh n i) → An (F_X12_judges_b248 (nI f) (F_X12_judges_b201 (nI f) q) (nI i) s' (nI i) (nI b)) (fun s => Fr [] jA [] s0 s ∧ JJ L ok rh n s) := by
        intro b hb hbb
        have hnar : vp_nar .boolean (nI b) = nI b := by
          obtain rfl | rfl : b = 0 ∨ b = 1 := by omega
          · exact bool0
          · exact bool1
        unfold F_X12_judges_b248
        simp (disch := omega) only [hnar, and_true, true_and, and_false, false_and, or_true, true_or, or_false, false_or, not_true_eq_false, not_false_eq_true, nm_at, Option.bind_some, if_true, if_false, ↓k_m1, ↓k_m2, ↓k_m3, ↓k_m5, ↓k_m9, ↓k_m10, ↓k_mno, k_0, k_1, k_2, k_3, k_4, k_5, k_6, k_7, k_8, k_9, k_10, k_11, k_12, k_13, k_14, k_15, k_16, k_17, k_18, k_19, k_20, k_21, k_22, k_23, k_24, k_25, k_26, k_27, k_28, k_29, k_30, k_31, k_32, k_36, k_48, k_50, k_57, k_58, k_59, k_64, k_97, k_99, k_100, k_101, k_102, k_104, k_105, k_107, k_108, k_109, k_110, k_111, k_114, k_115, k_116, k_119, k_122, k_128, k_255, k_500, k_1000, k_1023, k_10000, k_100000, nI_add, nI_mul, nI_sub, nI_sub0, nI_leI, nI_ltI, nI_eq, nM_lt, nM_le, nM_nlt, nM_nle, nM_ne, nM_ne', nM_eq, q_ii, q_ia, q_ij, q_it, q_aa, q_ai, q_aj, q_at, q_jj, q_ji, q_ja, q_jt, q_tt, q_ti, q_ta, q_tj, u_at, uL_at, Nat.zero_mul, Nat.mul_zero, Nat.one_mul, Nat.mul_one, Nat.zero_add, Nat.add_zero, nI_toInt, agN, asN, agLN, asLN, atvN, setvN, if_pos, if_neg]
        refine hK _ ⟨g1.a 28 _ (by decide), ?_⟩
        intro j hj
        by_cases k : j = i
        · simp (disch := omega) only [k, and_true, true_and, and_false, false_and, or_true, true_or, or_false, false_or, not_true_eq_false, not_false_eq_true, nm_at, Option.bind_some, if_true, if_false, ↓k_m1, ↓k_m2, ↓k_m3, ↓k_m5, ↓k_m9, ↓k_m10, ↓k_mno, k_0, k_1, k_2, k_3, k_4, k_5, k_6, k_7, k_8, k_9, k_10, k_11, k_12, k_13, k_14, k_15, k_16, k_17, k_18, k_19, k_20, k_21, k_22, k_23, k_24, k_25, k_26, k_27, k_28, k_29, k_30, k_31, k_32, k_36, k_48, k_50, k_57, k_58, k_59, k_64, k_97, k_99, k_100, k_101, k_102, k_104, k_105, k_107, k_108, k_109, k_110, k_111, k_114, k_115, k_116, k_119, k_122, k_128, k_255, k_500, k_1000, k_1023, k_10000, k_100000, nI_add, nI_mul, nI_sub, nI_sub0, nI_leI, nI_ltI, nI_eq, nM_lt, nM_le, nM_nlt, nM_nle, nM_ne, nM_ne', nM_eq, q_ii, q_ia, q_ij, q_it, q_aa, q_ai, q_aj, q_at, q_jj, q_ji, q_ja, q_jt, q_tt, q_ti, q_ta, q_tj, u_at, uL_at, Nat.zero_mul, Nat.mul_zero, Nat.one_mul, Nat.mul_one, Nat.zero_add, Nat.add_zero, nI_toInt, agN, asN, agLN, asLN, atvN, setvN, if_pos, if_neg]
          refine ⟨by omega, hbb⟩
        · simp (disch := omega) only [and_true, true_and, and_false, false_and, or_true, true_or, or_false, false_or, not_true_eq_false, not_false_eq_true, nm_at, Option.bind_some, if_true, if_false, ↓k_m1, ↓k_m2, ↓k_m3, ↓k_m5, ↓k_m9, ↓k_m10, ↓k_mno, k_0, k_1, k_2, k_3, k_4, k_5, k_6, k_7, k_8, k_9, k_10, k_11, k_12, k_13, k_14, k_15, k_16, k_17, k_18, k_19, k_20, k_21, k_22, k_23, k_24, k_25, k_26, k_27, k_28, k_29, k_30, k_31, k_32, k_36, k_48, k_50, k_57, k_58, k_59, k_64, k_97, k_99, k_100, k_101, k_102, k_104, k_105, k_107, k_108, k_109, k_110, k_111, k_114, k_115, k_116, k_119, k_122, k_128, k_255, k_500, k_1000, k_1023, k_10000, k_100000, nI_add, nI_mul, nI_sub, nI_sub0, nI_leI, nI_ltI, nI_eq, nM_lt, nM_le, nM_nlt, nM_nle, nM_ne, nM_ne', nM_eq, q_ii, q_ia, q_ij, q_it, q_aa, q_ai, q_aj, q_at, q_jj, q_ji, q_ja, q_jt, q_tt, q_ti, q_ta, q_tj, u_at, uL_at, Nat.zero_mul, Nat.mul_zero, Nat.one_mul, Nat.mul_one, Nat.zero_add, Nat.add_zero, nI_toInt, agN, asN, agLN, asLN, atvN, setvN, if_pos, if_neg]
          exact g2 j (by omega)
      show An (F_X12_judges_b201 (nI f) (q + 1) (nI i) s') _
      rw [F_X12_judges_b201, f25]
      unfold F_X12_judges_b243 F_X12_judges_b247
      by_cases c : js L ok rh i = 2
      · rw [if_pos c] at b3
        obtain ⟨a, ha, ha2, -⟩ := js_ja c
        rw [ha] at b3
        simp (disch := omega) only [b3, and_true, true_and, and_false, false_and, or_true, true_or, or_false, false_or, not_true_eq_false, not_false_eq_true, nm_at, Option.bind_some, if_true, if_false, ↓k_m1, ↓k_m2, ↓k_m3, ↓k_m5, ↓k_m9, ↓k_m10, ↓k_mno, k_0, k_1, k_2, k_3, k_4, k_5, k_6, k_7, k_8, k_9, k_10, k_11, k_12, k_13, k_14, k_15, k_16, k_17, k_18, k_19, k_20, k_21, k_22, k_23, k_24, k_25, k_26, k_27, k_28, k_29, k_30, k_31, k_32, k_36, k_48, k_50, k_57, k_58, k_59, k_64, k_97, k_99, k_100, k_101, k_102, k_104, k_105, k_107, k_108, k_109, k_110, k_111, k_114, k_115, k_116, k_119, k_122, k_128, k_255, k_500, k_1000, k_1023, k_10000, k_100000, nI_add, nI_mul, nI_sub, nI_sub0, nI_leI, nI_ltI, nI_eq, nM_lt, nM_le, nM_nlt, nM_nle, nM_ne, nM_ne', nM_eq, q_ii, q_ia, q_ij, q_it, q_aa, q_ai, q_aj, q_at, q_jj, q_ji, q_ja, q_jt, q_tt, q_ti, q_ta, q_tj, u_at, uL_at, Nat.zero_mul, Nat.mul_zero, Nat.one_mul, Nat.mul_one, Nat.zero_add, Nat.add_zero, nI_toInt, agN, asN, agLN, asLN, atvN, setvN, if_pos, if_neg]
        exact fin 1 (by omega) ⟨fun _ => Or.inl ⟨hi, c⟩, fun _ => rfl⟩
      · rw [if_neg c] at b3
        by_cases d : js L ok rh i = 1
        · rw [if_pos d] at b2
          obtain ⟨r, r1, r2, r3⟩ := holds_t hn hi f25 (x := 0) (by omega)
          simp (disch := omega) only [b3, b2, r1, and_true, true_and, and_false, false_and, or_true, true_or, or_false, false_or, not_true_eq_false, not_false_eq_true, nm_at, Option.bind_some, if_true, if_false, ↓k_m1, ↓k_m2, ↓k_m3, ↓k_m5, ↓k_m9, ↓k_m10, ↓k_mno, k_0, k_1, k_2, k_3, k_4, k_5, k_6, k_7, k_8, k_9, k_10, k_11, k_12, k_13, k_14, k_15, k_16, k_17, k_18, k_19, k_20, k_21, k_22, k_23, k_24, k_25, k_26, k_27, k_28, k_29, k_30, k_31, k_32, k_36, k_48, k_50, k_57, k_58, k_59, k_64, k_97, k_99, k_100, k_101, k_102, k_104, k_105, k_107, k_108, k_109, k_110, k_111, k_114, k_115, k_116, k_119, k_122, k_128, k_255, k_500, k_1000, k_1023, k_10000, k_100000, nI_add, nI_mul, nI_sub, nI_sub0, nI_leI, nI_ltI, nI_eq, nM_lt, nM_le, nM_nlt, nM_nle, nM_ne, nM_ne', nM_eq, q_ii, q_ia, q_ij, q_it, q_aa, q_ai, q_aj, q_at, q_jj, q_ji, q_ja, q_jt, q_tt, q_ti, q_ta, q_tj, u_at, uL_at, Nat.zero_mul, Nat.mul_zero, Nat.one_mul, Nat.mul_one, Nat.zero_add, Nat.add_zero, nI_toInt, agN, asN, agLN, asLN, atvN, setvN, if_pos, if_neg]
          have hb : (∃ k, i < k ∧ k < n ∧ mA s' 29 k = nI i ∧ (0 = 0 ∨ mA s' 30 k = nI 0)) ↔ bnd L ok rh n i := by
            unfold bnd
            constructor
            · rintro ⟨k, k1, k2, k3, -⟩
              exact Or.inr ⟨k, k2, (JS_anc hn hS k2 hi).mp k3⟩
            · rintro (z | ⟨k, k1, k2⟩)
              · exact absurd z.2 c
              · have := ja_at k2.2
                exact ⟨k, this.1, k1, (JS_anc hn hS k1 hi).mpr k2, Or.inl rfl⟩
          rcases r2 with r2 | r2
          · simp (disch := omega) only [r2, and_true, true_and, and_false, false_and, or_true, true_or, or_false, false_or, not_true_eq_false, not_false_eq_true, nm_at, Option.bind_some, if_true, if_false, ↓k_m1, ↓k_m2, ↓k_m3, ↓k_m5, ↓k_m9, ↓k_m10, ↓k_mno, k_0, k_1, k_2, k_3, k_4, k_5, k_6, k_7, k_8, k_9, k_10, k_11, k_12, k_13, k_14, k_15, k_16, k_17, k_18, k_19, k_20, k_21, k_22, k_23, k_24, k_25, k_26, k_27, k_28, k_29, k_30, k_31, k_32, k_36, k_48, k_50, k_57, k_58, k_59, k_64, k_97, k_99, k_100, k_101, k_102, k_104, k_105, k_107, k_108, k_109, k_110, k_111, k_114, k_115, k_116, k_119, k_122, k_128, k_255, k_500, k_1000, k_1023, k_10000, k_100000, nI_add, nI_mul, nI_sub, nI_sub0, nI_leI, nI_ltI, nI_eq, nM_lt, nM_le, nM_nlt, nM_nle, nM_ne, nM_ne', nM_eq, q_ii, q_ia, q_ij, q_it, q_aa, q_ai, q_aj, q_at, q_jj, q_ji, q_ja, q_jt, q_tt, q_ti, q_ta, q_tj, u_at, uL_at, Nat.zero_mul, Nat.mul_zero, Nat.one_mul, Nat.mul_one, Nat.zero_add, Nat.add_zero, nI_toInt, agN, asN, agLN, asLN, atvN, setvN, if_pos, if_neg]
            refine fin 0 (by omega) ⟨fun z => by omega, fun z => ?_⟩
            have := r3.mpr (hb.mpr z)
            rw [r2] at this; exact absurd this (by decide)
          · simp (disch := omega) only [r2, and_true, true_and, and_false, false_and, or_true, true_or, or_false, false_or, not_true_eq_false, not_false_eq_true, nm_at, Option.bind_some, if_true, if_false, ↓k_m1, ↓k_m2, ↓k_m3, ↓k_m5, ↓k_m9, ↓k_m10, ↓k_mno, k_0, k_1, k_2, k_3, k_4, k_5, k_6, k_7, k_8, k_9, k_10, k_11, k_12, k_13, k_14, k_15, k_16, k_17, k_18, k_19, k_20, k_21, k_22, k_23, k_24, k_25, k_26, k_27, k_28, k_29, k_30, k_31, k_32, k_36, k_48, k_50, k_57, k_58, k_59, k_64, k_97, k_99, k_100, k_101, k_102, k_104, k_105, k_107, k_108, k_109, k_110, k_111, k_114, k_115, k_116, k_119, k_122, k_128, k_255, k_500, k_1000, k_1023, k_10000, k_100000, nI_add, nI_mul, nI_sub, nI_sub0, nI_leI, nI_ltI, nI_eq, nM_lt, nM_le, nM_nlt, nM_nle, nM_ne, nM_ne', nM_eq, q_ii, q_ia, q_ij, q_it, q_aa, q_ai, q_aj, q_at, q_jj, q_ji, q_ja, q_jt, q_tt, q_ti, q_ta, q_tj, u_at, uL_at, Nat.zero_mul, Nat.mul_zero, Nat.one_mul, Nat.mul_one, Nat.zero_add, Nat.add_zero, nI_toInt, agN, asN, agLN, asLN, atvN, setvN, if_pos, if_neg]
            exact fin 1 (by omega) ⟨fun _ => hb.mp (r3.mp r2), fun _ => rfl⟩
        · rw [if_neg d] at b2
          simp (disch := omega) only [b3, b2, and_true, true_and, and_false, false_and, or_true, true_or, or_false, false_or, not_true_eq_false, not_false_eq_true, nm_at, Option.bind_some, if_true, if_false, ↓k_m1, ↓k_m2, ↓k_m3, ↓k_m5, ↓k_m9, ↓k_m10, ↓k_mno, k_0, k_1, k_2, k_3, k_4, k_5, k_6, k_7, k_8, k_9, k_10, k_11, k_12, k_13, k_14, k_15, k_16, k_17, k_18, k_19, k_20, k_21, k_22, k_23, k_24, k_25, k_26, k_27, k_28, k_29, k_30, k_31, k_32, k_36, k_48, k_50, k_57, k_58, k_59, k_64, k_97, k_99, k_100, k_101, k_102, k_104, k_105, k_107, k_108, k_109, k_110, k_111, k_114, k_115, k_116, k_119, k_122, k_128, k_255, k_500, k_1000, k_1023, k_10000, k_100000, nI_add, nI_mul, nI_sub, nI_sub0, nI_leI, nI_ltI, nI_eq, nM_lt, nM_le, nM_nlt, nM_nle, nM_ne, nM_ne', nM_eq, q_ii, q_ia, q_ij, q_it, q_aa, q_ai, q_aj, q_at, q_jj, q_ji, q_ja, q_jt, q_tt, q_ti, q_ta, q_tj, u_at, uL_at, Nat.zero_mul, Nat.mul_zero, Nat.one_mul, Nat.mul_one, Nat.zero_add, Nat.add_zero, nI_toInt, agN, asN, agLN, asLN, atvN, setvN, if_pos, if_neg]
          refine fin 0 (by omega) ⟨fun z => by omega, fun z => ?_⟩
          rcases z with z | ⟨k, k1, k2, k3⟩
          · exact absurd z.2 c
          · have h0 := ja_at k3
            have := js_le L ok rh i
            omega
    · intro q s' ⟨g1, g2⟩
      have f25 : mI s' 25 = nI n := by rw [g1.1 25 (by decide), e25, h25]
      show An (F_X12_judges_b201 (nI f) (q + 1) (nI n) s') _
      rw [F_X12_judges_b201, f25]
      simp (disch := omega) only [and_true, true_and, and_false, false_and, or_true, true_or, or_false, false_or, not_true_eq_false, not_false_eq_true, nm_at, Option.bind_some, if_true, if_false, ↓k_m1, ↓k_m2, ↓k_m3, ↓k_m5, ↓k_m9, ↓k_m10, ↓k_mno, k_0, k_1, k_2, k_3, k_4, k_5, k_6, k_7, k_8, k_9, k_10, k_11, k_12, k_13, k_14, k_15, k_16, k_17, k_18, k_19, k_20, k_21, k_22, k_23, k_24, k_25, k_26, k_27, k_28, k_29, k_30, k_31, k_32, k_36, k_48, k_50, k_57, k_58, k_59, k_64, k_97, k_99, k_100, k_101, k_102, k_104, k_105, k_107, k_108, k_109, k_110, k_111, k_114, k_115, k_116, k_119, k_122, k_128, k_255, k_500, k_1000, k_1023, k_10000, k_100000, nI_add, nI_mul, nI_sub, nI_sub0, nI_leI, nI_ltI, nI_eq, nM_lt, nM_le, nM_nlt, nM_nle, nM_ne, nM_ne', nM_eq, q_ii, q_ia, q_ij, q_it, q_aa, q_ai, q_aj, q_at, q_jj, q_ji, q_ja, q_jt, q_tt, q_ti, q_ta, q_tj, u_at, uL_at, Nat.zero_mul, Nat.mul_zero, Nat.one_mul, Nat.mul_one, Nat.zero_add, Nat.add_zero, nI_toInt, agN, asN, agLN, asLN, atvN, setvN, if_pos, if_neg]
      exact An_some ⟨h1.tr (g1.wd (fun _ x => x) (by decide) (fun _ x => x)), JS_fr h2 g1, g2⟩
