/-! ===== struck and key: the reference, the calls ===== -/
theorem JJ_fr {L : Nat → Nat} {ok : Nat → Bool} {rh : Nat → Nat → Bool} {n : Nat} {s s' : SM} (h : JJ L ok rh n s) (hf : Fr [] [30] [] s s') : JJ L ok rh n s' := by
  refine ⟨fun j hj => ?_, fun j hj => ?_⟩
  · rw [hf.2.1 26 (by decide), hf.2.1 27 (by decide), hf.2.1 29 (by decide)]
    exact h.1 j hj
  · rw [hf.2.1 28 (by decide)]
    exact h.2 j hj
theorem tb_nI1 (z : Int32) {i : Nat} (hi : i < 32) : ((z >>> (nI i &&& nI 31)) &&& nI 1 = nI 1) = (tb z i = true) := tb_sh1 z hi
def leftQ (L : Nat → Nat) (ok : Nat → Bool) (rh : Nat → Nat → Bool) (n : Nat) (set : Int32) (s : SM) (q : Int32 × SM) : Prop := bsP (leftP (js L ok rh) (ja L ok rh) set n) q.1 ∧ Fr [] [30] [] s q.2
theorem leftM_t {L : Nat → Nat} {ok : Nat → Bool} {rh : Nat → Nat → Bool} {n : Nat} {s : SM} (hn : n ≤ 8) (h25 : mI s 25 = nI n) (h : JJ L ok rh n s) (set : Int32) : An (F_X12_leftBy s set) (leftQ L ok rh n set s) := by
  unfold F_X12_leftBy
  simp (disch := omega) only [and_true, true_and, and_false, false_and, or_true, true_or, or_false, false_or, not_true_eq_false, not_false_eq_true, nm_at, Option.bind_some, if_true, if_false, ↓k_m1, ↓k_m2, ↓k_m3, ↓k_m5, ↓k_m9, ↓k_m10, ↓k_mno, k_0, k_1, k_2, k_3, k_4, k_5, k_6, k_7, k_8, k_9, k_10, k_11, k_12, k_13, k_14, k_15, k_16, k_17, k_18, k_19, k_20, k_21, k_22, k_23, k_24, k_25, k_26, k_27, k_28, k_29, k_30, k_31, k_32, k_36, k_48, k_50, k_57, k_58, k_59, k_64, k_97, k_99, k_100, k_101, k_102, k_104, k_105, k_107, k_108, k_109, k_110, k_111, k_114, k_115, k_116, k_119, k_122, k_128, k_255, k_500, k_1000, k_1023, k_10000, k_100000, nI_add, nI_mul, nI_sub, nI_sub0, nI_leI, nI_ltI, nI_eq, nM_lt, nM_le, nM_nlt, nM_nle, nM_ne, nM_ne', nM_eq, q_ii, q_ia, q_ij, q_it, q_aa, q_ai, q_aj, q_at, q_jj, q_ji, q_ja, q_jt, q_tt, q_ti, q_ta, q_tj, u_at, uL_at, Nat.zero_mul, Nat.mul_zero, Nat.one_mul, Nat.mul_one, Nat.zero_add, Nat.add_zero, nI_toInt, agN, asN, agLN, asLN, atvN, setvN, if_pos, if_neg]
  refine lp_up (fun q v s' => F_X12_leftBy_b4 set q (nI 0) v s') n (fun m s' => Fr [] [30] [] s s' ∧ ∀ j, j < m → mA s' 30 j = if lap (js L ok rh) (ja L ok rh) set j = true then nI 1 else nI 0) _ ?_ ?_ fu 0 s (by omega) (by unfold fu; omega) ⟨Fr.rf s, fun j hj => by omega⟩
  · intro q m s' hm ⟨h1, h2⟩ hK
    have f25 : mI s' 25 = nI n := (h1.1 25 (by decide)).trans h25
    have f29 := h1.2.1 29 (by decide)
    obtain ⟨-, -, e29⟩ := h.1 m hm
    have ha : js L ok rh m = 2 → ja L ok rh m - 1 < m := fun c => by
      obtain ⟨a, e1, e2, -⟩ := js_ja c
      omega
    have le := lap_eq (set := set) ha
    have fin : ∀ b : Nat, b < 2 → (lap (js L ok rh) (ja L ok rh) set m = true ↔ b = 1) → An (F_X12_leftBy_b56 set (F_X12_leftBy_b4 set q) (nI 0) (nI m) s' (nI m) (nI b)) (leftQ L ok rh n set s) := by
      intro b hb hl
      unfold F_X12_leftBy_b56
      simp (disch := omega) only [bool_n hb, and_true, true_and, and_false, false_and, or_true, true_or, or_false, false_or, not_true_eq_false, not_false_eq_true, nm_at, Option.bind_some, if_true, if_false, ↓k_m1, ↓k_m2, ↓k_m3, ↓k_m5, ↓k_m9, ↓k_m10, ↓k_mno, k_0, k_1, k_2, k_3, k_4, k_5, k_6, k_7, k_8, k_9, k_10, k_11, k_12, k_13, k_14, k_15, k_16, k_17, k_18, k_19, k_20, k_21, k_22, k_23, k_24, k_25, k_26, k_27, k_28, k_29, k_30, k_31, k_32, k_36, k_48, k_50, k_57, k_58, k_59, k_64, k_97, k_99, k_100, k_101, k_102, k_104, k_105, k_107, k_108, k_109, k_110, k_111, k_114, k_115, k_116, k_119, k_122, k_128, k_255, k_500, k_1000, k_1023, k_10000, k_100000, nI_add, nI_mul, nI_sub, nI_sub0, nI_leI, nI_ltI, nI_eq, nM_lt, nM_le, nM_nlt, nM_nle, nM_ne, nM_ne', nM_eq, q_ii, q_ia, q_ij, q_it, q_aa, q_ai, q_aj, q_at, q_jj, q_ji, q_ja, q_jt, q_tt, q_ti, q_ta, q_tj, u_at, uL_at, Nat.zero_mul, Nat.mul_zero, Nat.one_mul, Nat.mul_one, Nat.zero_add, Nat.add_zero, nI_toInt, agN, asN, agLN, asLN, atvN, setvN, if_pos, if_neg]
      refine hK _ ⟨h1.a 30 _ (by decide), fun j hj => ?_⟩
      by_cases k : j = m
      · rw [k]
        simp (disch := omega) only [and_true, true_and, and_false, false_and, or_true, true_or, or_false, false_or, not_true_eq_false, not_false_eq_true, nm_at, Option.bind_some, if_true, if_false, ↓k_m1, ↓k_m2, ↓k_m3, ↓k_m5, ↓k_m9, ↓k_m10, ↓k_mno, k_0, k_1, k_2, k_3, k_4, k_5, k_6, k_7, k_8, k_9, k_10, k_11, k_12, k_13, k_14, k_15, k_16, k_17, k_18, k_19, k_20, k_21, k_22, k_23, k_24, k_25, k_26, k_27, k_28, k_29, k_30, k_31, k_32, k_36, k_48, k_50, k_57, k_58, k_59, k_64, k_97, k_99, k_100, k_101, k_102, k_104, k_105, k_107, k_108, k_109, k_110, k_111, k_114, k_115, k_116, k_119, k_122, k_128, k_255, k_500, k_1000, k_1023, k_10000, k_100000, nI_add, nI_mul, nI_sub, nI_sub0, nI_leI, nI_ltI, nI_eq, nM_lt, nM_le, nM_nlt, nM_nle, nM_ne, nM_ne', nM_eq, q_ii, q_ia, q_ij, q_it, q_aa, q_ai, q_aj, q_at, q_jj, q_ji, q_ja, q_jt, q_tt, q_ti, q_ta, q_tj, u_at, uL_at, Nat.zero_mul, Nat.mul_zero, Nat.one_mul, Nat.mul_one, Nat.zero_add, Nat.add_zero, nI_toInt, agN, asN, agLN, asLN, atvN, setvN, if_pos, if_neg]
        by_cases c : b = 1
        · rw [if_pos (hl.mpr c), c]
        · rw [if_neg (fun z => c (hl.mp z))]; exact congrArg nI (by omega)
      · simp (disch := omega) only [and_true, true_and, and_false, false_and, or_true, true_or, or_false, false_or, not_true_eq_false, not_false_eq_true, nm_at, Option.bind_some, if_true, if_false, ↓k_m1, ↓k_m2, ↓k_m3, ↓k_m5, ↓k_m9, ↓k_m10, ↓k_mno, k_0, k_1, k_2, k_3, k_4, k_5, k_6, k_7, k_8, k_9, k_10, k_11, k_12, k_13, k_14, k_15, k_16, k_17, k_18, k_19, k_20, k_21, k_22, k_23, k_24, k_25, k_26, k_27, k_28, k_29, k_30, k_31, k_32, k_36, k_48, k_50, k_57, k_58, k_59, k_64, k_97, k_99, k_100, k_101, k_102, k_104, k_105, k_107, k_108, k_109, k_110, k_111, k_114, k_115, k_116, k_119, k_122, k_128, k_255, k_500, k_1000, k_1023, k_10000, k_100000, nI_add, nI_mul, nI_sub, nI_sub0, nI_leI, nI_ltI, nI_eq, nM_lt, nM_le, nM_nlt, nM_nle, nM_ne, nM_ne', nM_eq, q_ii, q_ia, q_ij, q_it, q_aa, q_ai, q_aj, q_at, q_jj, q_ji, q_ja, q_jt, q_tt, q_ti, q_ta, q_tj, u_at, uL_at, Nat.zero_mul, Nat.mul_zero, Nat.one_mul, Nat.mul_one, Nat.zero_add, Nat.add_zero, nI_toInt, agN, asN, agLN, asLN, atvN, setvN, if_pos, if_neg]
        exact h2 j (by omega)
    show An (F_X12_leftBy_b4 set (q + 1) (nI 0) (nI m) s') _
    rw [F_X12_leftBy_b4, f25]
    unfold F_X12_leftBy_b51 F_X12_leftBy_b55
    cases cs : tb set m
    · by_cases c2 : js L ok rh m = 2
      · obtain ⟨a, ea, ha2, -⟩ := js_ja c2
        rw [if_pos c2, ea] at e29
        rw [ea] at le
        rw [show a + 1 - 1 = a from by omega] at le e29
        have h2a := h2 a ha2
        cases cl : lap (js L ok rh) (ja L ok rh) set a
        · rw [cl] at h2a
          rw [if_neg (by simp)] at h2a
          simp (disch := omega) only [tb_nI1, cs, f29, e29, h2a, Bool.false_eq_true, and_true, true_and, and_false, false_and, or_true, true_or, or_false, false_or, not_true_eq_false, not_false_eq_true, nm_at, Option.bind_some, if_true, if_false, ↓k_m1, ↓k_m2, ↓k_m3, ↓k_m5, ↓k_m9, ↓k_m10, ↓k_mno, k_0, k_1, k_2, k_3, k_4, k_5, k_6, k_7, k_8, k_9, k_10, k_11, k_12, k_13, k_14, k_15, k_16, k_17, k_18, k_19, k_20, k_21, k_22, k_23, k_24, k_25, k_26, k_27, k_28, k_29, k_30, k_31, k_32, k_36, k_48, k_50, k_57, k_58, k_59, k_64, k_97, k_99, k_100, k_101, k_102, k_104, k_105, k_107, k_108, k_109, k_110, k_111, k_114, k_115, k_116, k_119, k_122, k_128, k_255, k_500, k_1000, k_1023, k_10000, k_100000, nI_add, nI_mul, nI_sub, nI_sub0, nI_leI, nI_ltI, nI_eq, nM_lt, nM_le, nM_nlt, nM_nle, nM_ne, nM_ne', nM_eq, q_ii, q_ia, q_ij, q_it, q_aa, q_ai, q_aj, q_at, q_jj, q_ji, q_ja, q_jt, q_tt, q_ti, q_ta, q_tj, u_at, uL_at, Nat.zero_mul, Nat.mul_zero, Nat.one_mul, Nat.mul_one, Nat.zero_add, Nat.add_zero, nI_toInt, agN, asN, agLN, asLN, atvN, setvN, if_pos, if_neg]
          exact fin 0 (by omega) (by rw [le, cs, cl]; simp)
        · rw [cl, if_pos rfl] at h2a
          simp (disch := omega) only [tb_nI1, cs, f29, e29, h2a, Bool.false_eq_true, and_true, true_and, and_false, false_and, or_true, true_or, or_false, false_or, not_true_eq_false, not_false_eq_true, nm_at, Option.bind_some, if_true, if_false, ↓k_m1, ↓k_m2, ↓k_m3, ↓k_m5, ↓k_m9, ↓k_m10, ↓k_mno, k_0, k_1, k_2, k_3, k_4, k_5, k_6, k_7, k_8, k_9, k_10, k_11, k_12, k_13, k_14, k_15, k_16, k_17, k_18, k_19, k_20, k_21, k_22, k_23, k_24, k_25, k_26, k_27, k_28, k_29, k_30, k_31, k_32, k_36, k_48, k_50, k_57, k_58, k_59, k_64, k_97, k_99, k_100, k_101, k_102, k_104, k_105, k_107, k_108, k_109, k_110, k_111, k_114, k_115, k_116, k_119, k_122, k_128, k_255, k_500, k_1000, k_1023, k_10000, k_100000, nI_add, nI_mul, nI_sub, nI_sub0, nI_leI, nI_ltI, nI_eq, nM_lt, nM_le, nM_nlt, nM_nle, nM_ne, nM_ne', nM_eq, q_ii, q_ia, q_ij, q_it, q_aa, q_ai, q_aj, q_at, q_jj, q_ji, q_ja, q_jt, q_tt, q_ti, q_ta, q_tj, u_at, uL_at, Nat.zero_mul, Nat.mul_zero, Nat.one_mul, Nat.mul_one, Nat.zero_add, Nat.add_zero, nI_toInt, agN, asN, agLN, asLN, atvN, setvN, if_pos, if_neg]
          exact fin 1 (by omega) (by rw [le, cl]; simp [c2])
      · rw [if_neg c2] at e29
        simp (disch := omega) only [tb_nI1, cs, f29, e29, Bool.false_eq_true, and_true, true_and, and_false, false_and, or_true, true_or, or_false, false_or, not_true_eq_false, not_false_eq_true, nm_at, Option.bind_some, if_true, if_false, ↓k_m1, ↓k_m2, ↓k_m3, ↓k_m5, ↓k_m9, ↓k_m10, ↓k_mno, k_0, k_1, k_2, k_3, k_4, k_5, k_6, k_7, k_8, k_9, k_10, k_11, k_12, k_13, k_14, k_15, k_16, k_17, k_18, k_19, k_20, k_21, k_22, k_23, k_24, k_25, k_26, k_27, k_28, k_29, k_30, k_31, k_32, k_36, k_48, k_50, k_57, k_58, k_59, k_64, k_97, k_99, k_100, k_101, k_102, k_104, k_105, k_107, k_108, k_109, k_110, k_111, k_114, k_115, k_116, k_119, k_122, k_128, k_255, k_500, k_1000, k_1023, k_10000, k_100000, nI_add, nI_mul, nI_sub, nI_sub0, nI_leI, nI_ltI, nI_eq, nM_lt, nM_le, nM_nlt, nM_nle, nM_ne, nM_ne', nM_eq, q_ii, q_ia, q_ij, q_it, q_aa, q_ai, q_aj, q_at, q_jj, q_ji, q_ja, q_jt, q_tt, q_ti, q_ta, q_tj, u_at, uL_at, Nat.zero_mul, Nat.mul_zero, Nat.one_mul, Nat.mul_one, Nat.zero_add, Nat.add_zero, nI_toInt, agN, asN, agLN, asLN, atvN, setvN, if_pos, if_neg]
        exact fin 0 (by omega) (by rw [le, cs]; simp [c2])
    · simp (disch := omega) only [tb_nI1, cs, and_true, true_and, and_false, false_and, or_true, true_or, or_false, false_or, not_true_eq_false, not_false_eq_true, nm_at, Option.bind_some, if_true, if_false, ↓k_m1, ↓k_m2, ↓k_m3, ↓k_m5, ↓k_m9, ↓k_m10, ↓k_mno, k_0, k_1, k_2, k_3, k_4, k_5, k_6, k_7, k_8, k_9, k_10, k_11, k_12, k_13, k_14, k_15, k_16, k_17, k_18, k_19, k_20, k_21, k_22, k_23, k_24, k_25, k_26, k_27, k_28, k_29, k_30, k_31, k_32, k_36, k_48, k_50, k_57, k_58, k_59, k_64, k_97, k_99, k_100, k_101, k_102, k_104, k_105, k_107, k_108, k_109, k_110, k_111, k_114, k_115, k_116, k_119, k_122, k_128, k_255, k_500, k_1000, k_1023, k_10000, k_100000, nI_add, nI_mul, nI_sub, nI_sub0, nI_leI, nI_ltI, nI_eq, nM_lt, nM_le, nM_nlt, nM_nle, nM_ne, nM_ne', nM_eq, q_ii, q_ia, q_ij, q_it, q_aa, q_ai, q_aj, q_at, q_jj, q_ji, q_ja, q_jt, q_tt, q_ti, q_ta, q_tj, u_at, uL_at, Nat.zero_mul, Nat.mul_zero, Nat.one_mul, Nat.mul_one, Nat.zero_add, Nat.add_zero, nI_toInt, agN, asN, agLN, asLN, atvN, setvN, if_pos, if_neg]
      exact fin 1 (by omega) (by rw [le, cs]; simp)
  · intro q s' ⟨h1, h2⟩
    have f25 : mI s' 25 = nI n := (h1.1 25 (by decide)).trans h25
    have hJ := JJ_fr h h1
    show An (F_X12_leftBy_b4 set (q + 1) (nI 0) (nI n) s') _
    rw [F_X12_leftBy_b4, f25]
    simp (disch := omega) only [and_true, true_and, and_false, false_and, or_true, true_or, or_false, false_or, not_true_eq_false, not_false_eq_true, nm_at, Option.bind_some, if_true, if_false, ↓k_m1, ↓k_m2, ↓k_m3, ↓k_m5, ↓k_m9, ↓k_m10, ↓k_mno, k_0, k_1, k_2, k_3, k_4, k_5, k_6, k_7, k_8, k_9, k_10, k_11, k_12, k_13, k_14, k_15, k_16, k_17, k_18, k_19, k_20, k_21, k_22, k_23, k_24, k_25, k_26, k_27, k_28, k_29, k_30, k_31, k_32, k_36, k_48, k_50, k_57, k_58, k_59, k_64, k_97, k_99, k_100, k_101, k_102, k_104, k_105, k_107, k_108, k_109, k_110, k_111, k_114, k_115, k_116, k_119, k_122, k_128, k_255, k_500, k_1000, k_1023, k_10000, k_100000, nI_add, nI_mul, nI_sub, nI_sub0, nI_leI, nI_ltI, nI_eq, nM_lt, nM_le, nM_nlt, nM_nle, nM_ne, nM_ne', nM_eq, q_ii, q_ia, q_ij, q_it, q_aa, q_ai, q_aj, q_at, q_jj, q_ji, q_ja, q_jt, q_tt, q_ti, q_ta, q_tj, u_at, uL_at, Nat.zero_mul, Nat.mul_zero, Nat.one_mul, Nat.mul_one, Nat.zero_add, Nat.add_zero, nI_toInt, agN, asN, agLN, asLN, atvN, setvN, if_pos, if_neg]
    refine lp_up (fun q v (x : Int32) => F_X12_leftBy_b65 set q x v s') n (fun m x => bsP (fun j => j < m ∧ leftP (js L ok rh) (ja L ok rh) set n j) x) _ ?_ ?_ fu 0 (nI 0) (by omega) (by unfold fu; omega) (bs_0 fun j _ y => by omega)
    · intro q m x hm hx hK
      obtain ⟨e26, e27, e29⟩ := hJ.1 m hm
      obtain ⟨e28, b28⟩ := hJ.2 m hm
      have e30 := h2 m hm
      have yes : leftP (js L ok rh) (ja L ok rh) set n m → An (F_X12_leftBy_b65 set q (x ||| (1 <<< (nI m &&& nI 31))) (nI (m + 1)) s') (leftQ L ok rh n set s) := by
        intro c
        refine hK _ fun j hj => ?_
        show tb (x ||| (1 <<< (nI m &&& 31))) j = true ↔ _
        rw [tb_or, tb_nI (by omega) j hj]
        simp only [Bool.or_eq_true, decide_eq_true_eq]
        rw [hx j hj]
        constructor
        · rintro (y | y)
          · exact ⟨by omega, y.2⟩
          · exact ⟨by omega, by rw [y]; exact c⟩
        · rintro ⟨y1, y2⟩
          by_cases k : j = m
          · exact Or.inr k
          · exact Or.inl ⟨by omega, y2⟩
      have no : ¬ leftP (js L ok rh) (ja L ok rh) set n m → An (F_X12_leftBy_b65 set q x (nI (m + 1)) s') (leftQ L ok rh n set s) := by
        intro c
        refine hK _ fun j hj => ?_
        show tb x j = true ↔ _
        rw [hx j hj]
        constructor
        · rintro ⟨y1, y2⟩; exact ⟨by omega, y2⟩
        · rintro ⟨y1, y2⟩
          by_cases k : j = m
          · rw [k] at y2; exact absurd y2 c
          · exact ⟨by omega, y2⟩
      -- what is left binds, did not lapse, and if it opens, holds
      have hb : leftP (js L ok rh) (ja L ok rh) set n m → bnd L ok rh n m ∧ lap (js L ok rh) (ja L ok rh) set m = false := by
        rintro ⟨k, k1, k2, k3, k4⟩
        rcases k4 with k4 | k4
        · rw [k4]; exact ⟨Or.inl ⟨k1, k2⟩, k3⟩
        · refine ⟨Or.inr ⟨k, k1, k2, k4⟩, ?_⟩
          have hk : js L ok rh k = 2 → ja L ok rh k - 1 < k := fun _ => by have := ja_at k4; omega
          have lk := lap_eq (set := set) hk
          rw [k3, k4] at lk
          rw [show m + 1 - 1 = m from by omega] at lk
          cases d : lap (js L ok rh) (ja L ok rh) set m
          · rfl
          · rw [d] at lk; simp [k2] at lk
      show An (F_X12_leftBy_b65 set (q + 1) x (nI m) s') _
      rw [F_X12_leftBy_b65, f25]
      unfold F_X12_leftBy_b110 F_X12_leftBy_b116 F_X12_leftBy_b117
      rcases e28 with e28 | e28
      · simp (disch := omega) only [e28, or_0, and_true, true_and, and_false, false_and, or_true, true_or, or_false, false_or, not_true_eq_false, not_false_eq_true, nm_at, Option.bind_some, if_true, if_false, ↓k_m1, ↓k_m2, ↓k_m3, ↓k_m5, ↓k_m9, ↓k_m10, ↓k_mno, k_0, k_1, k_2, k_3, k_4, k_5, k_6, k_7, k_8, k_9, k_10, k_11, k_12, k_13, k_14, k_15, k_16, k_17, k_18, k_19, k_20, k_21, k_22, k_23, k_24, k_25, k_26, k_27, k_28, k_29, k_30, k_31, k_32, k_36, k_48, k_50, k_57, k_58, k_59, k_64, k_97, k_99, k_100, k_101, k_102, k_104, k_105, k_107, k_108, k_109, k_110, k_111, k_114, k_115, k_116, k_119, k_122, k_128, k_255, k_500, k_1000, k_1023, k_10000, k_100000, nI_add, nI_mul, nI_sub, nI_sub0, nI_leI, nI_ltI, nI_eq, nM_lt, nM_le, nM_nlt, nM_nle, nM_ne, nM_ne', nM_eq, q_ii, q_ia, q_ij, q_it, q_aa, q_ai, q_aj, q_at, q_jj, q_ji, q_ja, q_jt, q_tt, q_ti, q_ta, q_tj, u_at, uL_at, Nat.zero_mul, Nat.mul_zero, Nat.one_mul, Nat.mul_one, Nat.zero_add, Nat.add_zero, nI_toInt, agN, asN, agLN, asLN, atvN, setvN, if_pos, if_neg]
        refine no fun y => ?_
        have := b28.mpr (hb y).1
        rw [e28] at this
        exact absurd this (by decide)
      · have bm := b28.mp e28
        cases cl : lap (js L ok rh) (ja L ok rh) set m
        · rw [cl, if_neg (by simp)] at e30
          by_cases c1 : js L ok rh m = 1
          · rw [if_pos c1] at e27
            obtain ⟨r, r1, r2, r3⟩ := holds_t hn hm f25 (x := 1) (by omega)
            simp (disch := omega) only [e28, e30, e27, r1, and_true, true_and, and_false, false_and, or_true, true_or, or_false, false_or, not_true_eq_false, not_false_eq_true, nm_at, Option.bind_some, if_true, if_false, ↓k_m1, ↓k_m2, ↓k_m3, ↓k_m5, ↓k_m9, ↓k_m10, ↓k_mno, k_0, k_1, k_2, k_3, k_4, k_5, k_6, k_7, k_8, k_9, k_10, k_11, k_12, k_13, k_14, k_15, k_16, k_17, k_18, k_19, k_20, k_21, k_22, k_23, k_24, k_25, k_26, k_27, k_28, k_29, k_30, k_31, k_32, k_36, k_48, k_50, k_57, k_58, k_59, k_64, k_97, k_99, k_100, k_101, k_102, k_104, k_105, k_107, k_108, k_109, k_110, k_111, k_114, k_115, k_116, k_119, k_122, k_128, k_255, k_500, k_1000, k_1023, k_10000, k_100000, nI_add, nI_mul, nI_sub, nI_sub0, nI_leI, nI_ltI, nI_eq, nM_lt, nM_le, nM_nlt, nM_nle, nM_ne, nM_ne', nM_eq, q_ii, q_ia, q_ij, q_it, q_aa, q_ai, q_aj, q_at, q_jj, q_ji, q_ja, q_jt, q_tt, q_ti, q_ta, q_tj, u_at, uL_at, Nat.zero_mul, Nat.mul_zero, Nat.one_mul, Nat.mul_one, Nat.zero_add, Nat.add_zero, nI_toInt, agN, asN, agLN, asLN, atvN, setvN, if_pos, if_neg]
            have hh : (∃ k, m < k ∧ k < n ∧ mA s' 29 k = nI m ∧ (1 = 0 ∨ mA s' 30 k = nI 0)) ↔ leftP (js L ok rh) (ja L ok rh) set n m := by
              constructor
              · rintro ⟨k, k1, k2, k3, k4⟩
                obtain ⟨g1, g2⟩ := (JS_anc hn hJ.1 k2 hm).mp k3
                have k4' : mA s' 30 k = nI 0 := by rcases k4 with k4 | k4; omega; exact k4
                refine ⟨k, k2, g1, ?_, Or.inr g2⟩
                have e := h2 k k2
                cases d : lap (js L ok rh) (ja L ok rh) set k
                · rfl
                · rw [d, if_pos rfl, k4'] at e; exact absurd e (by decide)
              · rintro ⟨k, k1, k2, k3, k4⟩
                rcases k4 with k4 | k4
                · rw [← k4] at k2; omega
                · have := ja_at k4
                  refine ⟨k, this.1, k1, (JS_anc hn hJ.1 k1 hm).mpr ⟨k2, k4⟩, Or.inr ?_⟩
                  rw [h2 k k1, k3, if_neg (by simp)]
            rcases r2 with r2 | r2
            · simp (disch := omega) only [r2, or_0, and_true, true_and, and_false, false_and, or_true, true_or, or_false, false_or, not_true_eq_false, not_false_eq_true, nm_at, Option.bind_some, if_true, if_false, ↓k_m1, ↓k_m2, ↓k_m3, ↓k_m5, ↓k_m9, ↓k_m10, ↓k_mno, k_0, k_1, k_2, k_3, k_4, k_5, k_6, k_7, k_8, k_9, k_10, k_11, k_12, k_13, k_14, k_15, k_16, k_17, k_18, k_19, k_20, k_21, k_22, k_23, k_24, k_25, k_26, k_27, k_28, k_29, k_30, k_31, k_32, k_36, k_48, k_50, k_57, k_58, k_59, k_64, k_97, k_99, k_100, k_101, k_102, k_104, k_105, k_107, k_108, k_109, k_110, k_111, k_114, k_115, k_116, k_119, k_122, k_128, k_255, k_500, k_1000, k_1023, k_10000, k_100000, nI_add, nI_mul, nI_sub, nI_sub0, nI_leI, nI_ltI, nI_eq, nM_lt, nM_le, nM_nlt, nM_nle, nM_ne, nM_ne', nM_eq, q_ii, q_ia, q_ij, q_it, q_aa, q_ai, q_aj, q_at, q_jj, q_ji, q_ja, q_jt, q_tt, q_ti, q_ta, q_tj, u_at, uL_at, Nat.zero_mul, Nat.mul_zero, Nat.one_mul, Nat.mul_one, Nat.zero_add, Nat.add_zero, nI_toInt, agN, asN, agLN, asLN, atvN, setvN, if_pos, if_neg]
              refine no fun y => ?_
              have := r3.mpr (hh.mpr y)
              rw [r2] at this
              exact absurd this (by decide)
            · simp (disch := omega) only [r2, and_true, true_and, and_false, false_and, or_true, true_or, or_false, false_or, not_true_eq_false, not_false_eq_true, nm_at, Option.bind_some, if_true, if_false, ↓k_m1, ↓k_m2, ↓k_m3, ↓k_m5, ↓k_m9, ↓k_m10, ↓k_mno, k_0, k_1, k_2, k_3, k_4, k_5, k_6, k_7, k_8, k_9, k_10, k_11, k_12, k_13, k_14, k_15, k_16, k_17, k_18, k_19, k_20, k_21, k_22, k_23, k_24, k_25, k_26, k_27, k_28, k_29, k_30, k_31, k_32, k_36, k_48, k_50, k_57, k_58, k_59, k_64, k_97, k_99, k_100, k_101, k_102, k_104, k_105, k_107, k_108, k_109, k_110, k_111, k_114, k_115, k_116, k_119, k_122, k_128, k_255, k_500, k_1000, k_1023, k_10000, k_100000, nI_add, nI_mul, nI_sub, nI_sub0, nI_leI, nI_ltI, nI_eq, nM_lt, nM_le, nM_nlt, nM_nle, nM_ne, nM_ne', nM_eq, q_ii, q_ia, q_ij, q_it, q_aa, q_ai, q_aj, q_at, q_jj, q_ji, q_ja, q_jt, q_tt, q_ti, q_ta, q_tj, u_at, uL_at, Nat.zero_mul, Nat.mul_zero, Nat.one_mul, Nat.mul_one, Nat.zero_add, Nat.add_zero, nI_toInt, agN, asN, agLN, asLN, atvN, setvN, if_pos, if_neg]
              exact yes (hh.mp (r3.mp r2))
          · rw [if_neg c1] at e27
            simp (disch := omega) only [e28, e30, e27, and_true, true_and, and_false, false_and, or_true, true_or, or_false, false_or, not_true_eq_false, not_false_eq_true, nm_at, Option.bind_some, if_true, if_false, ↓k_m1, ↓k_m2, ↓k_m3, ↓k_m5, ↓k_m9, ↓k_m10, ↓k_mno, k_0, k_1, k_2, k_3, k_4, k_5, k_6, k_7, k_8, k_9, k_10, k_11, k_12, k_13, k_14, k_15, k_16, k_17, k_18, k_19, k_20, k_21, k_22, k_23, k_24, k_25, k_26, k_27, k_28, k_29, k_30, k_31, k_32, k_36, k_48, k_50, k_57, k_58, k_59, k_64, k_97, k_99, k_100, k_101, k_102, k_104, k_105, k_107, k_108, k_109, k_110, k_111, k_114, k_115, k_116, k_119, k_122, k_128, k_255, k_500, k_1000, k_1023, k_10000, k_100000, nI_add, nI_mul, nI_sub, nI_sub0, nI_leI, nI_ltI, nI_eq, nM_lt, nM_le, nM_nlt, nM_nle, nM_ne, nM_ne', nM_eq, q_ii, q_ia, q_ij, q_it, q_aa, q_ai, q_aj, q_at, q_jj, q_ji, q_ja, q_jt, q_tt, q_ti, q_ta, q_tj, u_at, uL_at, Nat.zero_mul, Nat.mul_zero, Nat.one_mul, Nat.mul_one, Nat.zero_add, Nat.add_zero, nI_toInt, agN, asN, agLN, asLN, atvN, setvN, if_pos, if_neg]
            refine yes ?_
            rcases bm with y | ⟨k, k1, k2, k3⟩
            · exact ⟨m, hm, y.2, cl, Or.inl rfl⟩
            · have h0 := ja_at k3
              have hle := js_le L ok rh m
              exact ⟨m, hm, by omega, cl, Or.inl rfl⟩
        · rw [cl, if_pos rfl] at e30
          simp (disch := omega) only [e28, e30, or_0, and_true, true_and, and_false, false_and, or_true, true_or, or_false, false_or, not_true_eq_false, not_false_eq_true, nm_at, Option.bind_some, if_true, if_false, ↓k_m1, ↓k_m2, ↓k_m3, ↓k_m5, ↓k_m9, ↓k_m10, ↓k_mno, k_0, k_1, k_2, k_3, k_4, k_5, k_6, k_7, k_8, k_9, k_10, k_11, k_12, k_13, k_14, k_15, k_16, k_17, k_18, k_19, k_20, k_21, k_22, k_23, k_24, k_25, k_26, k_27, k_28, k_29, k_30, k_31, k_32, k_36, k_48, k_50, k_57, k_58, k_59, k_64, k_97, k_99, k_100, k_101, k_102, k_104, k_105, k_107, k_108, k_109, k_110, k_111, k_114, k_115, k_116, k_119, k_122, k_128, k_255, k_500, k_1000, k_1023, k_10000, k_100000, nI_add, nI_mul, nI_sub, nI_sub0, nI_leI, nI_ltI, nI_eq, nM_lt, nM_le, nM_nlt, nM_nle, nM_ne, nM_ne', nM_eq, q_ii, q_ia, q_ij, q_it, q_aa, q_ai, q_aj, q_at, q_jj, q_ji, q_ja, q_jt, q_tt, q_ti, q_ta, q_tj, u_at, uL_at, Nat.zero_mul, Nat.mul_zero, Nat.one_mul, Nat.mul_one, Nat.zero_add, Nat.add_zero, nI_toInt, agN, asN, agLN, asLN, atvN, setvN, if_pos, if_neg]
          refine no fun y => ?_
          have := (hb y).2
          rw [cl] at this
          cases this
    · intro q x hx
      show An (F_X12_leftBy_b65 set (q + 1) x (nI n) s') _
      rw [F_X12_leftBy_b65, f25]
      simp (disch := omega) only [and_true, true_and, and_false, false_and, or_true, true_or, or_false, false_or, not_true_eq_false, not_false_eq_true, nm_at, Option.bind_some, if_true, if_false, ↓k_m1, ↓k_m2, ↓k_m3, ↓k_m5, ↓k_m9, ↓k_m10, ↓k_mno, k_0, k_1, k_2, k_3, k_4, k_5, k_6, k_7, k_8, k_9, k_10, k_11, k_12, k_13, k_14, k_15, k_16, k_17, k_18, k_19, k_20, k_21, k_22, k_23, k_24, k_25, k_26, k_27, k_28, k_29, k_30, k_31, k_32, k_36, k_48, k_50, k_57, k_58, k_59, k_64, k_97, k_99, k_100, k_101, k_102, k_104, k_105, k_107, k_108, k_109, k_110, k_111, k_114, k_115, k_116, k_119, k_122, k_128, k_255, k_500, k_1000, k_1023, k_10000, k_100000, nI_add, nI_mul, nI_sub, nI_sub0, nI_leI, nI_ltI, nI_eq, nM_lt, nM_le, nM_nlt, nM_nle, nM_ne, nM_ne', nM_eq, q_ii, q_ia, q_ij, q_it, q_aa, q_ai, q_aj, q_at, q_jj, q_ji, q_ja, q_jt, q_tt, q_ti, q_ta, q_tj, u_at, uL_at, Nat.zero_mul, Nat.mul_zero, Nat.one_mul, Nat.mul_one, Nat.zero_add, Nat.add_zero, nI_toInt, agN, asN, agLN, asLN, atvN, setvN, if_pos, if_neg]
      refine An_some ⟨fun j hj => ?_, h1⟩
      rw [hx j hj]
      constructor
      · exact fun y => y.2
      · intro y
        refine ⟨?_, y⟩
        obtain ⟨k, k1, k2, k3, k4⟩ := y
        rcases k4 with k4 | k4
        · omega
        · have := ja_at k4; omega
theorem op_bound {st : SX} {ms : SM} (h : Inv st ms) (a1 a2 : Int32) : ∃ (r r2 : Int32) (st2 : SX) (ms2 : SM), X_bound st a1 a2 = some (r, st2) ∧ M_bound ms a1 a2 = some (r2, ms2) ∧ r = r2 ∧ Inv st2 ms2 := by
  obtain ⟨o, tx, ve, tr, me, gu, ch, row, i1, i2, t7, t10, t1, tp, ts, p7, p10, p1, pp, ps⟩ := st
  obtain ⟨W, F, P, S, T, ⟨hW, hF, hP, hS, hT⟩, hTX, hWR, hFR, hMR, hLP, hLS, hI1, hI2, hMo, hTr⟩ := (show IV o tx tr row i1 i2 t7 t10 t1 tp ts pp ps ms from h)
  have hP8 := hLP.1
  have hW16 := hWR.1
  have hF2 := hFR.1
  have hS6 := hLS.1
  have hs := hLP.2.2.1.1
  by_cases c1 : (0 ≤ a1.toInt ∧ a1.toInt < F) ∧ 0 ≤ a2.toInt ∧ a2.toInt < 2
  · obtain ⟨f, hf, rfl⟩ := Lb.of c1.1
    obtain ⟨d, hd, rfl⟩ := Lb.of (n := 2) c1.2
    obtain ⟨L, ok, rh, z, s', z1, z2, m1, m3, m4, m5, m6⟩ := views ve hMR hWR hFR hf hP hLP hd
    obtain ⟨r, r1, r2⟩ := boundX_t hLP hP8 z2
    obtain ⟨r', g1, g2⟩ := boundM_t hLP.2.2.2 hP8 m4 m5 m6
    refine ⟨r, r', (o, tx, z, tr, me, gu, ch, row, i1, i2, t7, t10, t1, tp, ts, p7, p10, p1, pp, ps), s', ?_, ?_, bs_uniq r2 g2, IV.f0 h m3⟩
    · unfold X_bound F_X11_bound F_X11_view
      rw [noView_t o t7 hFR.2.1 (by omega), if_pos c1, z1]
      simp only [Option.bind_some]
      rw [r1]; rfl
    · unfold M_bound F_X12_bound
      simp only [nm_at]
      rw [isForm_t (s := mIs ms 0 0) hF (by omega), if_pos c1, show F_X12_judgesPaper (mIs ms 0 0) (nI f) (nI d) = some s' from m1]
      simp only [Option.bind_some]
      rw [g1]; rfl
  · refine ⟨nM 1, nM 1, (o, tx, ve, tr, me, gu, ch, row, i1, i2, t7, t10, t1, tp, ts, p7, p10, p1, pp, ps), mIs ms 0 0, ?_, ?_, rfl, IV.f0 h (fr0 ms)⟩
    · unfold X_bound F_X11_bound
      rw [noView_t o t7 hFR.2.1 (by omega), if_neg c1]
      rfl
    · unfold M_bound F_X12_bound
      simp only [nm_at]
      rw [isForm_t (s := mIs ms 0 0) hF (by omega), if_neg c1]
      rfl
theorem op_struck {st : SX} {ms : SM} (h : Inv st ms) (a1 a2 a3 : Int32) : ∃ (r r2 : Int32) (st2 : SX) (ms2 : SM), X_struck st a1 a2 a3 = some (r, st2) ∧ M_struck ms a1 a2 a3 = some (r2, ms2) ∧ r = r2 ∧ Inv st2 ms2 := by
  obtain ⟨o, tx, ve, tr, me, gu, ch, row, i1, i2, t7, t10, t1, tp, ts, p7, p10, p1, pp, ps⟩ := st
  obtain ⟨W, F, P, S, T, ⟨hW, hF, hP, hS, hT⟩, hTX, hWR, hFR, hMR, hLP, hLS, hI1, hI2, hMo, hTr⟩ := (show IV o tx tr row i1 i2 t7 t10 t1 tp ts pp ps ms from h)
  have hP8 := hLP.1
  have hW16 := hWR.1
  have hF2 := hFR.1
  have hS6 := hLS.1
  have hs := hLP.2.2.1.1
  by_cases c1 : (0 ≤ a1.toInt ∧ a1.toInt < F) ∧ 0 ≤ a2.toInt ∧ a2.toInt < 2
  · obtain ⟨f, hf, rfl⟩ := Lb.of c1.1
    obtain ⟨d, hd, rfl⟩ := Lb.of (n := 2) c1.2
    obtain ⟨L, ok, rh, z, s', z1, z2, m1, m3, m4, m5, m6⟩ := views ve hMR hWR hFR hf hP hLP hd
    obtain ⟨r, r1, r2⟩ := leftX_t hP8 z2 a3
    obtain ⟨r', g1, g2, g3⟩ := leftM_t hP8 m4 m6 a3
    refine ⟨r, r'.1, (o, tx, z, tr, me, gu, ch, row, i1, i2, t7, t10, t1, tp, ts, p7, p10, p1, pp, ps), r'.2, ?_, ?_, bs_uniq r2 g2, IV.f0 h (m3.tr (g3.wd (by decide) (by decide) (by decide)))⟩
    · unfold X_struck F_X11_struck F_X11_view
      rw [noView_t o t7 hFR.2.1 (by omega), if_pos c1, z1]
      simp only [Option.bind_some]
      rw [r1]; rfl
    · unfold M_struck F_X12_struck
      simp only [nm_at]
      rw [isForm_t (s := mIs ms 0 0) hF (by omega), if_pos c1, show F_X12_judgesPaper (mIs ms 0 0) (nI f) (nI d) = some s' from m1]
      simp only [Option.bind_some]
      rw [g1]; rfl
  · refine ⟨nM 1, nM 1, (o, tx, ve, tr, me, gu, ch, row, i1, i2, t7, t10, t1, tp, ts, p7, p10, p1, pp, ps), mIs ms 0 0, ?_, ?_, rfl, IV.f0 h (fr0 ms)⟩
    · unfold X_struck F_X11_struck
      rw [noView_t o t7 hFR.2.1 (by omega), if_neg c1]
      rfl
    · unfold M_struck F_X12_struck
      simp only [nm_at]
      rw [isForm_t (s := mIs ms 0 0) hF (by omega), if_neg c1]
      rfl
/-! key -/
def pcN (x : Int32) : Nat → Nat
  | 0 => 0
  | k + 1 => pcN x k + (if tb x k = true then 1 else 0)
theorem ones_t (x : Int32) : An (F_X12_ones x) (fun r => r = nI (pcN x 16)) := by
  unfold F_X12_ones
  simp (disch := omega) only [and_true, true_and, and_false, false_and, or_true, true_or, or_false, false_or, not_true_eq_false, not_false_eq_true, nm_at, Option.bind_some, if_true, if_false, ↓k_m1, ↓k_m2, ↓k_m3, ↓k_m5, ↓k_m9, ↓k_m10, ↓k_mno, k_0, k_1, k_2, k_3, k_4, k_5, k_6, k_7, k_8, k_9, k_10, k_11, k_12, k_13, k_14, k_15, k_16, k_17, k_18, k_19, k_20, k_21, k_22, k_23, k_24, k_25, k_26, k_27, k_28, k_29, k_30, k_31, k_32, k_36, k_48, k_50, k_57, k_58, k_59, k_64, k_97, k_99, k_100, k_101, k_102, k_104, k_105, k_107, k_108, k_109, k_110, k_111, k_114, k_115, k_116, k_119, k_122, k_128, k_255, k_500, k_1000, k_1023, k_10000, k_100000, nI_add, nI_mul, nI_sub, nI_sub0, nI_leI, nI_ltI, nI_eq, nM_lt, nM_le, nM_nlt, nM_nle, nM_ne, nM_ne', nM_eq, q_ii, q_ia, q_ij, q_it, q_aa, q_ai, q_aj, q_at, q_jj, q_ji, q_ja, q_jt, q_tt, q_ti, q_ta, q_tj, u_at, uL_at, Nat.zero_mul, Nat.mul_zero, Nat.one_mul, Nat.mul_one, Nat.zero_add, Nat.add_zero, nI_toInt, agN, asN, agLN, asLN, atvN, setvN, if_pos, if_neg]
  refine lp_up (fun q v (y : Int32) => F_X12_ones_b4 x q y v) 16 (fun m y => y = nI (pcN x m)) _ ?_ ?_ fu 0 (nI 0) (by omega) (by unfold fu; omega) rfl
  · intro q m y hm hy hK
    show An (F_X12_ones_b4 x (q + 1) y (nI m)) _
    rw [F_X12_ones_b4, hy]
    rw [tb_sh x (by omega)]
    cases c : tb x m
    · simp (disch := omega) only [Bool.false_eq_true, and_true, true_and, and_false, false_and, or_true, true_or, or_false, false_or, not_true_eq_false, not_false_eq_true, nm_at, Option.bind_some, if_true, if_false, ↓k_m1, ↓k_m2, ↓k_m3, ↓k_m5, ↓k_m9, ↓k_m10, ↓k_mno, k_0, k_1, k_2, k_3, k_4, k_5, k_6, k_7, k_8, k_9, k_10, k_11, k_12, k_13, k_14, k_15, k_16, k_17, k_18, k_19, k_20, k_21, k_22, k_23, k_24, k_25, k_26, k_27, k_28, k_29, k_30, k_31, k_32, k_36, k_48, k_50, k_57, k_58, k_59, k_64, k_97, k_99, k_100, k_101, k_102, k_104, k_105, k_107, k_108, k_109, k_110, k_111, k_114, k_115, k_116, k_119, k_122, k_128, k_255, k_500, k_1000, k_1023, k_10000, k_100000, nI_add, nI_mul, nI_sub, nI_sub0, nI_leI, nI_ltI, nI_eq, nM_lt, nM_le, nM_nlt, nM_nle, nM_ne, nM_ne', nM_eq, q_ii, q_ia, q_ij, q_it, q_aa, q_ai, q_aj, q_at, q_jj, q_ji, q_ja, q_jt, q_tt, q_ti, q_ta, q_tj, u_at, uL_at, Nat.zero_mul, Nat.mul_zero, Nat.one_mul, Nat.mul_one, Nat.zero_add, Nat.add_zero, nI_toInt, agN, asN, agLN, asLN, atvN, setvN, if_pos, if_neg]
      refine hK _ ?_
      rw [pcN, c]
      simp
    · simp (disch := omega) only [and_true, true_and, and_false, false_and, or_true, true_or, or_false, false_or, not_true_eq_false, not_false_eq_true, nm_at, Option.bind_some, if_true, if_false, ↓k_m1, ↓k_m2, ↓k_m3, ↓k_m5, ↓k_m9, ↓k_m10, ↓k_mno, k_0, k_1, k_2, k_3, k_4, k_5, k_6, k_7, k_8, k_9, k_10, k_11, k_12, k_13, k_14, k_15, k_16, k_17, k_18, k_19, k_20, k_21, k_22, k_23, k_24, k_25, k_26, k_27, k_28, k_29, k_30, k_31, k_32, k_36, k_48, k_50, k_57, k_58, k_59, k_64, k_97, k_99, k_100, k_101, k_102, k_104, k_105, k_107, k_108, k_109, k_110, k_111, k_114, k_115, k_116, k_119, k_122, k_128, k_255, k_500, k_1000, k_1023, k_10000, k_100000, nI_add, nI_mul, nI_sub, nI_sub0, nI_leI, nI_ltI, nI_eq, nM_lt, nM_le, nM_nlt, nM_nle, nM_ne, nM_ne', nM_eq, q_ii, q_ia, q_ij, q_it, q_aa, q_ai, q_aj, q_at, q_jj, q_ji, q_ja, q_jt, q_tt, q_ti, q_ta, q_tj, u_at, uL_at, Nat.zero_mul, Nat.mul_zero, Nat.one_mul, Nat.mul_one, Nat.zero_add, Nat.add_zero, nI_toInt, agN, asN, agLN, asLN, atvN, setvN, if_pos, if_neg]
      refine hK _ ?_
      rw [pcN, c]
      simp
  · intro q y hy
    show An (F_X12_ones_b4 x (q + 1) y (nI 16)) _
    rw [F_X12_ones_b4]
    simp (disch := omega) only [and_true, true_and, and_false, false_and, or_true, true_or, or_false, false_or, not_true_eq_false, not_false_eq_true, nm_at, Option.bind_some, if_true, if_false, ↓k_m1, ↓k_m2, ↓k_m3, ↓k_m5, ↓k_m9, ↓k_m10, ↓k_mno, k_0, k_1, k_2, k_3, k_4, k_5, k_6, k_7, k_8, k_9, k_10, k_11, k_12, k_13, k_14, k_15, k_16, k_17, k_18, k_19, k_20, k_21, k_22, k_23, k_24, k_25, k_26, k_27, k_28, k_29, k_30, k_31, k_32, k_36, k_48, k_50, k_57, k_58, k_59, k_64, k_97, k_99, k_100, k_101, k_102, k_104, k_105, k_107, k_108, k_109, k_110, k_111, k_114, k_115, k_116, k_119, k_122, k_128, k_255, k_500, k_1000, k_1023, k_10000, k_100000, nI_add, nI_mul, nI_sub, nI_sub0, nI_leI, nI_ltI, nI_eq, nM_lt, nM_le, nM_nlt, nM_nle, nM_ne, nM_ne', nM_eq, q_ii, q_ia, q_ij, q_it, q_aa, q_ai, q_aj, q_at, q_jj, q_ji, q_ja, q_jt, q_tt, q_ti, q_ta, q_tj, u_at, uL_at, Nat.zero_mul, Nat.mul_zero, Nat.one_mul, Nat.mul_one, Nat.zero_add, Nat.add_zero, nI_toInt, agN, asN, agLN, asLN, atvN, setvN, if_pos, if_neg]
    exact An_some hy
theorem bitc_all : ∀ v : Fin 256, F_J6_bitCount_0f7a4 (nI v.val) = some (nI (pcN (nI v.val) 16)) ∧ pcN (nI v.val) 16 ≤ 8 := by decide +kernel
theorem bitc_t {p : Nat → Prop} {x : Int32} (h : bsP p x) (h8 : ∀ j, p j → j < 8) : F_J6_bitCount_0f7a4 x = some (nI (pcN x 16)) ∧ pcN x 16 ≤ 8 := by
  have e : x &&& 255 = x := by
    refine tb_ext fun j hj => ?_
    rw [tb_and]
    have e4 : tb 255 j = decide (j < 8) := by
      have h : ∀ j : Fin 32, tb 255 j.val = decide (j.val < 8) := by decide +kernel
      exact h ⟨j, hj⟩
    rw [e4]
    cases c : tb x j
    · rfl
    · have := h8 j ((h j hj).mp c)
      simp [this]
  obtain ⟨v, hv, ev⟩ := and255 x
  rw [e] at ev
  rw [ev]
  exact bitc_all ⟨v, hv⟩
/-- the first of those with the fewest -/
def keyI (c : Nat → Nat) (m : Nat) (r : Int32) (w : Int32) (e : Int32) : Prop := (m = 0 ∧ r = nM 9 ∧ w = e) ∨ ∃ i, i < m ∧ r = nI i ∧ w = nI (c i) ∧ (∀ j, j < i → c i < c j) ∧ ∀ j, j < m → c i ≤ c j
theorem key_uniq {c : Nat → Nat} {m : Nat} {r r2 w w2 e e2 : Int32} (h : keyI c m r w e) (h2 : keyI c m r2 w2 e2) : r = r2 := by
  rcases h with ⟨a, b, -⟩ | ⟨i, i1, i2, -, i3, i4⟩
  · rcases h2 with ⟨-, b2, -⟩ | ⟨j, j1, -⟩
    · rw [b, b2]
    · omega
  · rcases h2 with ⟨a, -⟩ | ⟨j, j1, j2, -, j3, j4⟩
    · omega
    · have : i = j := by
        rcases Nat.lt_trichotomy i j with g | g | g
        · have a := j3 i g; have b := i4 j j1; omega
        · exact g
        · have a := i3 j g; have b := j4 i i1; omega
      rw [i2, j2, this]
theorem keyI_0 {c : Nat → Nat} {e : Int32} : keyI c 1 (nI 0) (nI (c 0)) e := Or.inr ⟨0, by omega, rfl, rfl, fun j hj => by omega, fun j hj => by rw [show j = 0 from by omega]; exact Nat.le_refl _⟩
theorem keyI_lt {c : Nat → Nat} {e : Int32} {m i : Nat} (h : ∀ j, j < m → c i ≤ c j) (h2 : c m < c i) : keyI c (m + 1) (nI m) (nI (c m)) e :=
  Or.inr ⟨m, by omega, rfl, rfl, fun j hj => by have := h j hj; omega, fun j hj => by
    by_cases q : j = m
    · rw [q]; exact Nat.le_refl _
    · have := h j (by omega); omega⟩
theorem keyI_ge {c : Nat → Nat} {e : Int32} {m i : Nat} (hi : i < m) (h1 : ∀ j, j < i → c i < c j) (h : ∀ j, j < m → c i ≤ c j) (h2 : ¬ c m < c i) : keyI c (m + 1) (nI i) (nI (c i)) e :=
  Or.inr ⟨i, by omega, rfl, rfl, h1, fun j hj => by
    by_cases q : j = m
    · rw [q]; omega
    · exact h j (by omega)⟩
theorem keyX_lp {n : Nat} {z : S9} {c : Nat → Nat} (hn : n ≤ 8) (hz : s9_size z = nI n) (h : ∀ i, i < n → ∃ x, F_X9_left z (nI 1 <<< (nI i &&& nI 31)) = some x ∧ F_J6_bitCount_0f7a4 x = some (nI (c i)) ∧ c i ≤ 8) {r0 w0 : Int32} (h0 : keyI c 0 r0 w0 (nI 9)) : An (F_X9_keyLine_b8 z fu r0 w0 (nI 0)) (fun r => ∃ w e, keyI c n r w e) := by
  refine lp_up (fun q v (x : Int32 × Int32) => F_X9_keyLine_b8 z q x.1 x.2 v) n (fun m x => keyI c m x.1 x.2 (nI 9)) _ ?_ ?_ fu 0 (r0, w0) (by omega) (by unfold fu; omega) h0
  · intro q m ⟨r, w⟩ hm hI hK
    obtain ⟨x, x1, x2, x3⟩ := h m hm
    show An (F_X9_keyLine_b8 z (q + 1) r w (nI m)) _
    have go : ∀ w' : Nat, w = nI w' → w' < 10 → F_X9_keyLine_b8 z (q + 1) r w (nI m) = (if w' ≤ c m then F_X9_keyLine_b8 z q r w (nI (m + 1)) else F_X9_keyLine_b8 z q (nI m) (nI (c m)) (nI (m + 1))) := by
      intro w' ew hw'
      rw [F_X9_keyLine_b8, hz, if_neg (nI_ge hm (by omega))]
      have x1' : F_X9_left z (1 <<< (nI m &&& 31)) = some x := x1
      rw [x1', Option.bind_some, x2, Option.bind_some, nm_at, ew]
      unfold F_X9_keyLine_b39
      by_cases g : w' ≤ c m
      · rw [if_pos g, if_pos (nI_le g (by omega)), nm_at, nI_1]
      · rw [if_neg g, if_neg (nI_ge (by omega) (by omega)), nm_at, nm_at, nm_at, nI_1]
    rcases hI with ⟨a, b, d⟩ | ⟨i, i1, i2, i3, i4, i5⟩
    · simp only [] at a b d
      rw [go 9 d (by omega), if_neg (by omega)]
      subst a
      exact hK (_, _) keyI_0
    · simp only [] at i2 i3
      obtain ⟨_, _, _, y3⟩ := h i (by omega)
      rw [go (c i) i3 (by omega)]
      by_cases g : c m < c i
      · rw [if_neg (by omega)]
        exact hK (_, _) (keyI_lt i5 g)
      · rw [if_pos (by omega), i2, i3]
        exact hK (_, _) (keyI_ge i1 i4 i5 g)
  · intro q ⟨r, w⟩ hI
    show An (F_X9_keyLine_b8 z (q + 1) r w (nI n)) _
    rw [F_X9_keyLine_b8, hz]
    simp (disch := omega) only [and_true, true_and, and_false, false_and, or_true, true_or, or_false, false_or, not_true_eq_false, not_false_eq_true, nm_at, Option.bind_some, if_true, if_false, ↓k_m1, ↓k_m2, ↓k_m3, ↓k_m5, ↓k_m9, ↓k_m10, ↓k_mno, k_0, k_1, k_2, k_3, k_4, k_5, k_6, k_7, k_8, k_9, k_10, k_11, k_12, k_13, k_14, k_15, k_16, k_17, k_18, k_19, k_20, k_21, k_22, k_23, k_24, k_25, k_26, k_27, k_28, k_29, k_30, k_31, k_32, k_36, k_48, k_50, k_57, k_58, k_59, k_64, k_97, k_99, k_100, k_101, k_102, k_104, k_105, k_107, k_108, k_109, k_110, k_111, k_114, k_115, k_116, k_119, k_122, k_128, k_255, k_500, k_1000, k_1023, k_10000, k_100000, nI_add, nI_mul, nI_sub, nI_sub0, nI_leI, nI_ltI, nI_eq, nM_lt, nM_le, nM_nlt, nM_nle, nM_ne, nM_ne', nM_eq, q_ii, q_ia, q_ij, q_it, q_aa, q_ai, q_aj, q_at, q_jj, q_ji, q_ja, q_jt, q_tt, q_ti, q_ta, q_tj, u_at, uL_at, Nat.zero_mul, Nat.mul_zero, Nat.one_mul, Nat.mul_one, Nat.zero_add, Nat.add_zero, nI_toInt, agN, asN, agLN, asLN, atvN, setvN, if_pos, if_neg]
    exact An_some ⟨w, nI 9, hI⟩
theorem keyX_t {n : Nat} {z : S9} {c : Nat → Nat} (hn : n ≤ 8) (hz : s9_size z = nI n) (h : ∀ i, i < n → ∃ x, F_X9_left z (nI 1 <<< (nI i &&& nI 31)) = some x ∧ F_J6_bitCount_0f7a4 x = some (nI (c i)) ∧ c i ≤ 8) : An (F_X9_keyLine z) (fun r => ∃ w e, keyI c n r w e) := by
  have e := keyX_lp hn hz h (r0 := -9) (w0 := 9) (Or.inl ⟨rfl, rfl, rfl⟩)
  unfold F_X9_keyLine
  rw [nm_at, nm_at, nm_at]
  exact e
theorem keyM_t {n : Nat} {s : SM} {x1 x2 : Int32} {c : Nat → Nat} (hn : n ≤ 8) (h25 : mI s 25 = nI n) (h : ∀ i s', i < n → Fr [] [30] [] s s' → ∃ x, F_X12_leftBy s' (nI 1 <<< (nI i &&& nI 31)) = some x ∧ F_X12_ones x.1 = some (nI (c i)) ∧ c i ≤ 8 ∧ Fr [] [30] [] s' x.2) : An (F_X12_key_b31 x1 x2 fu (nM 9) (nI 0) (nI 0) s) (fun r => (∃ w e, keyI c n r.1 w e) ∧ Fr [] [30] [] s r.2) := by
  refine lp_up (fun q v (x : Int32 × Int32 × SM) => F_X12_key_b31 x1 x2 q x.1 x.2.1 v x.2.2) n (fun m x => keyI c m x.1 x.2.1 (nI 0) ∧ Fr [] [30] [] s x.2.2) _ ?_ ?_ fu 0 (nM 9, nI 0, s) (by omega) (by unfold fu; omega) ⟨Or.inl ⟨rfl, rfl, rfl⟩, Fr.rf s⟩
  · intro q m ⟨r, w, s'⟩ hm ⟨hI, hF⟩ hK
    simp only [] at hF
    obtain ⟨⟨x, s2⟩, y1, y2, y3, y4⟩ := h m s' hm hF
    have f25 : mI s' 25 = nI n := (hF.1 25 (by decide)).trans h25
    simp only [] at y2 y4
    show An (F_X12_key_b31 x1 x2 (q + 1) r w (nI m) s') _
    rw [F_X12_key_b31, f25]
    unfold F_X12_key_b66 F_X12_key_b72 F_X12_key_b86
    rcases hI with ⟨a, b, d⟩ | ⟨i, i1, i2, i3, i4, i5⟩
    · simp only [] at a b d
      subst a b d
      simp (disch := omega) only [y1, y2, and_true, true_and, and_false, false_and, or_true, true_or, or_false, false_or, not_true_eq_false, not_false_eq_true, nm_at, Option.bind_some, if_true, if_false, ↓k_m1, ↓k_m2, ↓k_m3, ↓k_m5, ↓k_m9, ↓k_m10, ↓k_mno, k_0, k_1, k_2, k_3, k_4, k_5, k_6, k_7, k_8, k_9, k_10, k_11, k_12, k_13, k_14, k_15, k_16, k_17, k_18, k_19, k_20, k_21, k_22, k_23, k_24, k_25, k_26, k_27, k_28, k_29, k_30, k_31, k_32, k_36, k_48, k_50, k_57, k_58, k_59, k_64, k_97, k_99, k_100, k_101, k_102, k_104, k_105, k_107, k_108, k_109, k_110, k_111, k_114, k_115, k_116, k_119, k_122, k_128, k_255, k_500, k_1000, k_1023, k_10000, k_100000, nI_add, nI_mul, nI_sub, nI_sub0, nI_leI, nI_ltI, nI_eq, nM_lt, nM_le, nM_nlt, nM_nle, nM_ne, nM_ne', nM_eq, q_ii, q_ia, q_ij, q_it, q_aa, q_ai, q_aj, q_at, q_jj, q_ji, q_ja, q_jt, q_tt, q_ti, q_ta, q_tj, u_at, uL_at, Nat.zero_mul, Nat.mul_zero, Nat.one_mul, Nat.mul_one, Nat.zero_add, Nat.add_zero, nI_toInt, agN, asN, agLN, asLN, atvN, setvN, if_pos, if_neg]
      exact hK (_, _, _) ⟨keyI_0, hF.tr y4⟩
    · simp only [] at i2 i3
      subst i2 i3
      obtain ⟨_, _, _, y5, _⟩ := h i s' (by omega) hF
      by_cases g : c m < c i
      · simp (disch := omega) only [y1, y2, and_true, true_and, and_false, false_and, or_true, true_or, or_false, false_or, not_true_eq_false, not_false_eq_true, nm_at, Option.bind_some, if_true, if_false, ↓k_m1, ↓k_m2, ↓k_m3, ↓k_m5, ↓k_m9, ↓k_m10, ↓k_mno, k_0, k_1, k_2, k_3, k_4, k_5, k_6, k_7, k_8, k_9, k_10, k_11, k_12, k_13, k_14, k_15, k_16, k_17, k_18, k_19, k_20, k_21, k_22, k_23, k_24, k_25, k_26, k_27, k_28, k_29, k_30, k_31, k_32, k_36, k_48, k_50, k_57, k_58, k_59, k_64, k_97, k_99, k_100, k_101, k_102, k_104, k_105, k_107, k_108, k_109, k_110, k_111, k_114, k_115, k_116, k_119, k_122, k_128, k_255, k_500, k_1000, k_1023, k_10000, k_100000, nI_add, nI_mul, nI_sub, nI_sub0, nI_leI, nI_ltI, nI_eq, nM_lt, nM_le, nM_nlt, nM_nle, nM_ne, nM_ne', nM_eq, q_ii, q_ia, q_ij, q_it, q_aa, q_ai, q_aj, q_at, q_jj, q_ji, q_ja, q_jt, q_tt, q_ti, q_ta, q_tj, u_at, uL_at, Nat.zero_mul, Nat.mul_zero, Nat.one_mul, Nat.mul_one, Nat.zero_add, Nat.add_zero, nI_toInt, agN, asN, agLN, asLN, atvN, setvN, if_pos, if_neg]
        exact hK (_, _, _) ⟨keyI_lt i5 g, hF.tr y4⟩
      · simp (disch := omega) only [y1, y2, and_true, true_and, and_false, false_and, or_true, true_or, or_false, false_or, not_true_eq_false, not_false_eq_true, nm_at, Option.bind_some, if_true, if_false, ↓k_m1, ↓k_m2, ↓k_m3, ↓k_m5, ↓k_m9, ↓k_m10, ↓k_mno, k_0, k_1, k_2, k_3, k_4, k_5, k_6, k_7, k_8, k_9, k_10, k_11, k_12, k_13, k_14, k_15, k_16, k_17, k_18, k_19, k_20, k_21, k_22, k_23, k_24, k_25, k_26, k_27, k_28, k_29, k_30, k_31, k_32, k_36, k_48, k_50, k_57, k_58, k_59, k_64, k_97, k_99, k_100, k_101, k_102, k_104, k_105, k_107, k_108, k_109, k_110, k_111, k_114, k_115, k_116, k_119, k_122, k_128, k_255, k_500, k_1000, k_1023, k_10000, k_100000, nI_add, nI_mul, nI_sub, nI_sub0, nI_leI, nI_ltI, nI_eq, nM_lt, nM_le, nM_nlt, nM_nle, nM_ne, nM_ne', nM_eq, q_ii, q_ia, q_ij, q_it, q_aa, q_ai, q_aj, q_at, q_jj, q_ji, q_ja, q_jt, q_tt, q_ti, q_ta, q_tj, u_at, uL_at, Nat.zero_mul, Nat.mul_zero, Nat.one_mul, Nat.mul_one, Nat.zero_add, Nat.add_zero, nI_toInt, agN, asN, agLN, asLN, atvN, setvN, if_pos, if_neg]
        exact hK (_, _, _) ⟨keyI_ge i1 i4 i5 g, hF.tr y4⟩
  · intro q ⟨r, w, s'⟩ ⟨hI, hF⟩
    simp only [] at hF
    have f25 : mI s' 25 = nI n := (hF.1 25 (by decide)).trans h25
    show An (F_X12_key_b31 x1 x2 (q + 1) r w (nI n) s') _
    rw [F_X12_key_b31, f25]
    simp (disch := omega) only [and_true, true_and, and_false, false_and, or_true, true_or, or_false, false_or, not_true_eq_false, not_false_eq_true, nm_at, Option.bind_some, if_true, if_false, ↓k_m1, ↓k_m2, ↓k_m3, ↓k_m5, ↓k_m9, ↓k_m10, ↓k_mno, k_0, k_1, k_2, k_3, k_4, k_5, k_6, k_7, k_8, k_9, k_10, k_11, k_12, k_13, k_14, k_15, k_16, k_17, k_18, k_19, k_20, k_21, k_22, k_23, k_24, k_25, k_26, k_27, k_28, k_29, k_30, k_31, k_32, k_36, k_48, k_50, k_57, k_58, k_59, k_64, k_97, k_99, k_100, k_101, k_102, k_104, k_105, k_107, k_108, k_109, k_110, k_111, k_114, k_115, k_116, k_119, k_122, k_128, k_255, k_500, k_1000, k_1023, k_10000, k_100000, nI_add, nI_mul, nI_sub, nI_sub0, nI_leI, nI_ltI, nI_eq, nM_lt, nM_le, nM_nlt, nM_nle, nM_ne, nM_ne', nM_eq, q_ii, q_ia, q_ij, q_it, q_aa, q_ai, q_aj, q_at, q_jj, q_ji, q_ja, q_jt, q_tt, q_ti, q_ta, q_tj, u_at, uL_at, Nat.zero_mul, Nat.mul_zero, Nat.one_mul, Nat.mul_one, Nat.zero_add, Nat.add_zero, nI_toInt, agN, asN, agLN, asLN, atvN, setvN, if_pos, if_neg]
    exact An_some ⟨⟨w, nI 0, hI⟩, hF⟩
theorem op_key {st : SX} {ms : SM} (h : Inv st ms) (a1 a2 : Int32) : ∃ (r r2 : Int32) (st2 : SX) (ms2 : SM), X_key st a1 a2 = some (r, st2) ∧ M_key ms a1 a2 = some (r2, ms2) ∧ r = r2 ∧ Inv st2 ms2 := by
  obtain ⟨o, tx, ve, tr, me, gu, ch, row, i1, i2, t7, t10, t1, tp, ts, p7, p10, p1, pp, ps⟩ := st
  obtain ⟨W, F, P, S, T, ⟨hW, hF, hP, hS, hT⟩, hTX, hWR, hFR, hMR, hLP, hLS, hI1, hI2, hMo, hTr⟩ := (show IV o tx tr row i1 i2 t7 t10 t1 tp ts pp ps ms from h)
  have hP8 := hLP.1
  have hW16 := hWR.1
  have hF2 := hFR.1
  have hS6 := hLS.1
  have hs := hLP.2.2.1.1
  by_cases c1 : (0 ≤ a1.toInt ∧ a1.toInt < F) ∧ 0 ≤ a2.toInt ∧ a2.toInt < 2
  · obtain ⟨f, hf, rfl⟩ := Lb.of c1.1
    obtain ⟨d, hd, rfl⟩ := Lb.of (n := 2) c1.2
    obtain ⟨L, ok, rh, z, s', z1, z2, m1, m3, m4, m5, m6⟩ := views ve hMR hWR hFR hf hP hLP hd
    have hl8 : ∀ set j, leftP (js L ok rh) (ja L ok rh) set P j → j < 8 := by
      rintro set j ⟨k, k1, k2, k3, k4⟩
      rcases k4 with k4 | k4
      · omega
      · have := ja_at k4; omega
    have hlf : ∀ i, ∃ x, F_X9_left z (nI 1 <<< (nI i &&& nI 31)) = some x ∧ bsP (leftP (js L ok rh) (ja L ok rh) (nI 1 <<< (nI i &&& nI 31)) P) x := fun i => leftX_t hP8 z2 _
    let c : Nat → Nat := fun i => pcN ((F_X9_left z (nI 1 <<< (nI i &&& nI 31))).getD 0) 16
    have hc : ∀ i x, F_X9_left z (nI 1 <<< (nI i &&& nI 31)) = some x → c i = pcN x 16 := by
      intro i x e
      show pcN ((F_X9_left z (nI 1 <<< (nI i &&& nI 31))).getD 0) 16 = _
      rw [e]; rfl
    obtain ⟨r, r1, w, e, r2⟩ := keyX_t (c := c) hP8 z2.1 fun i _ => by
      obtain ⟨x, y1, y2⟩ := hlf i
      obtain ⟨y3, y4⟩ := bitc_t y2 (hl8 _)
      exact ⟨x, y1, by rw [hc i x y1]; exact y3, by rw [hc i x y1]; exact y4⟩
    obtain ⟨⟨r', s2⟩, g1, ⟨w', e', g2⟩, g3⟩ := keyM_t (x1 := nI f) (x2 := nI d) (c := c) hP8 m4 fun i s2 _ hs2 => by
      obtain ⟨x, y1, y2⟩ := hlf i
      obtain ⟨y3, y4⟩ := bitc_t y2 (hl8 _)
      have f25 : mI s2 25 = nI P := (hs2.1 25 (by decide)).trans m4
      obtain ⟨q, q1, q2, q3⟩ := leftM_t hP8 f25 (JJ_fr m6 hs2) (nI 1 <<< (nI i &&& nI 31))
      obtain ⟨o1, o2, o3⟩ := ones_t q.1
      have exq : q.1 = x := bs_uniq q2 y2
      refine ⟨q, q1, ?_, by rw [hc i x y1]; exact y4, q3⟩
      rw [o2, o3, exq, hc i x y1]
    simp only [] at g2 g3
    refine ⟨r, r', (o, tx, z, tr, me, gu, ch, row, i1, i2, t7, t10, t1, tp, ts, p7, p10, p1, pp, ps), s2, ?_, ?_, key_uniq r2 g2, IV.f0 h (m3.tr (g3.wd (by decide) (by decide) (by decide)))⟩
    · unfold X_key F_X11_key F_X11_view
      rw [noView_t o t7 hFR.2.1 (by omega), if_pos c1, z1]
      simp only [Option.bind_some]
      rw [r1]; rfl
    · unfold M_key F_X12_key
      simp only [nm_at]
      rw [isForm_t (s := mIs ms 0 0) hF (by omega), if_pos c1, show F_X12_judgesPaper (mIs ms 0 0) (nI f) (nI d) = some s' from m1]
      simp only [Option.bind_some]
      rw [show F_X12_key_b31 (nI f) (nI d) fu (-9) 0 0 s' = some (r', s2) from g1]; rfl
  · refine ⟨nM 1, nM 1, (o, tx, ve, tr, me, gu, ch, row, i1, i2, t7, t10, t1, tp, ts, p7, p10, p1, pp, ps), mIs ms 0 0, ?_, ?_, rfl, IV.f0 h (fr0 ms)⟩
    · unfold X_key F_X11_key
      rw [noView_t o t7 hFR.2.1 (by omega), if_neg c1]
      rfl
    · unfold M_key F_X12_key
      simp only [nm_at]
      rw [isForm_t (s := mIs ms 0 0) hF (by omega), if_neg c1]
      rfl
