/-! ===== read ===== -/
theorem copy_lp {m : SM} {R N off n : Nat} (hn : n ≤ off) (hN : off + n ≤ N) (hN2 : N < 1000) {B : Type} (G : Nat → Int32 → Int32 → SM → Option B) (v : Int32) (K : SM → Option B) (hG : ∀ q k s, k ≤ n → (∀ j, j ∉ [R] → mA s j = mA m j) → (∀ j, mI s j = mI m j) → (k = n → G (q + 1) v (nI k) s = K s) ∧ (k < n → G (q + 1) v (nI k) s = G q v (nI (k + 1)) (mAs s R (upd (mA s R) k (mA s R (off + k)))))) : ∀ f, n < f → ∃ s, G f v (nI 0) m = K s ∧ Fr [] [R] [] m s ∧ (∀ k, k < n → mA s R k = mA m R (off + k)) ∧ ∀ k, n ≤ k → mA s R k = mA m R k := by
  have main : ∀ f k s, k ≤ n → n - k < f → Fr [] [R] [] m s → (∀ j, j < k → mA s R j = mA m R (off + j)) → (∀ j, k ≤ j → mA s R j = mA m R j) → ∃ s', G f v (nI k) s = K s' ∧ Fr [] [R] [] m s' ∧ (∀ k, k < n → mA s' R k = mA m R (off + k)) ∧ ∀ k, n ≤ k → mA s' R k = mA m R k := by
    intro f
    induction f with
    | zero => intro k s _ h; omega
    | succ f ih =>
      intro k s hk hf hs h1 h2
      obtain ⟨g1, g2⟩ := hG f k s hk hs.2.1 (fun j => hs.1 j (by simp))
      by_cases c : k = n
      · subst c
        exact ⟨s, g1 rfl, hs, h1, h2⟩
      · rw [g2 (by omega)]
        refine ih (k + 1) _ (by omega) (by omega) (hs.a R _ (by simp)) (fun j hj => ?_) (fun j hj => ?_)
        · rw [q_aa, if_pos rfl, u_at]
          by_cases y : j = k
          · rw [if_pos y, y, h2 _ (by omega)]
          · rw [if_neg y]; exact h1 j (by omega)
        · rw [q_aa, if_pos rfl, u_at, if_neg (by omega)]; exact h2 j (by omega)
  exact fun f hf => main f 0 m (by omega) (by omega) (Fr.rf m) (fun j hj => by omega) (fun j _ => rfl)
/-- the last steps: what was told is taken over -/
theorem fin_t {m : SM} {W F P S : Nat} {t7 : S7} {t10 : S10} {t1 : S1} {pp ps : S4} (hD : DR W F P S t7 t10 t1 pp ps m) (it : Nat) : An (F_X12_read_b236 fu (nI it) (nI 0) m) (fun q => q.1 = nI it ∧ (mI q.2 13 = nI W ∧ mI q.2 14 = nI F ∧ mA q.2 21 0 = nI P ∧ mI q.2 15 = nI S ∧ mI q.2 3 = nI 0) ∧ WR t10 W (mA q.2 9) ∧ FR t1 F (mA q.2 10) ∧ MR t7 (mA q.2 11) ∧ LR pp P 8 W (fun k => mA q.2 21 (1 + k)) ∧ LR ps S 6 W (mA q.2 12) ∧ mA q.2 23 0 = 0 ∧ mA q.2 23 1 = 0 ∧ mT q.2 = mT m) := by
  obtain ⟨⟨d16, d17, d19, d18⟩, dW, dF, dM, dP, dS⟩ := hD
  have h16 := dW.1
  have hF2 := dF.1
  have hP8 := dP.1
  have hS6 := dS.1
  -- the words
  obtain ⟨m1, a1, a2, a3, -⟩ := copy_lp (m := m) (R := 9) (N := 128) (off := 64) (n := 64) (by omega) (by omega) (by omega) F_X12_read_b236 (nI it) (fun s => F_X12_read_b265 fu (nI it) 0 s) (fun q k s hk h1 h2 => by
    rw [F_X12_read_b236]
    refine ⟨fun e => ?_, fun e => ?_⟩
    · rw [if_pos (show (64 : Int32) ≤ nI k from nI_le (a := 64) (by omega) (by omega)), nm_at]
    · rw [if_neg (show ¬ (64 : Int32) ≤ nI k from nI_ge (b := 64) e (by omega)), show (64 : Int32) + nI k = nI (64 + k) from nI_add 64 k, agN (by omega) (by omega), Option.bind_some, asN _ (by omega) (by omega), Option.bind_some, nm_at, nm_at, nI_1]) fu (by unfold fu; omega)
  rw [a1]
  -- the forms and the stock
  have b265 : ∃ s, F_X12_read_b265 fu (nI it) 0 m1 = F_X12_read_b309 fu (nI it) 0 s ∧ Fr [] [10, 12] [] m1 s ∧ (∀ k, k < 18 → mA s 10 k = mA m1 10 (18 + k)) ∧ (∀ k, k < 18 → mA s 12 k = mA m1 12 (18 + k)) := by
    have main : ∀ f k s, k ≤ 18 → 18 - k < f → Fr [] [10, 12] [] m1 s → (∀ j, j < k → mA s 10 j = mA m1 10 (18 + j) ∧ mA s 12 j = mA m1 12 (18 + j)) → (∀ j, k ≤ j → mA s 10 j = mA m1 10 j ∧ mA s 12 j = mA m1 12 j) → ∃ s', F_X12_read_b265 f (nI it) (nI k) s = F_X12_read_b309 fu (nI it) 0 s' ∧ Fr [] [10, 12] [] m1 s' ∧ (∀ k, k < 18 → mA s' 10 k = mA m1 10 (18 + k)) ∧ (∀ k, k < 18 → mA s' 12 k = mA m1 12 (18 + k)) := by
      intro f
      induction f with
      | zero => intro k s _ h; omega
      | succ f ih =>
        intro k s hk hf hs h1 h2
        rw [F_X12_read_b265]
        by_cases c : k = 18
        · rw [if_pos (show (18 : Int32) ≤ nI k from nI_le (a := 18) (by omega) (by omega)), nm_at]
          exact ⟨s, rfl, hs, fun j hj => (h1 j (by omega)).1, fun j hj => (h1 j (by omega)).2⟩
        · rw [if_neg (show ¬ (18 : Int32) ≤ nI k from nI_ge (b := 18) (by omega) (by omega)), show (18 : Int32) + nI k = nI (18 + k) from nI_add 18 k, agN (by omega) (by omega), Option.bind_some, asN _ (by omega) (by omega), Option.bind_some, nm_at]
          rw [q_aa, if_neg (by omega), agN (by omega) (by omega), Option.bind_some, asN _ (by omega) (by omega), Option.bind_some, nm_at, nm_at, nI_1]
          refine ih (k + 1) _ (by omega) (by omega) ((hs.a 10 _ (by simp)).a 12 _ (by simp)) (fun j hj => ?_) (fun j hj => ?_)
          · rw [q_aa, if_neg (by omega), q_aa, if_pos rfl, q_aa, if_pos rfl, u_at, u_at]
            by_cases y : j = k
            · rw [if_pos y, if_pos y, y, (h2 _ (by omega)).1, (h2 _ (by omega)).2]; exact ⟨rfl, rfl⟩
            · rw [if_neg y, if_neg y]; exact h1 j (by omega)
          · rw [q_aa, if_neg (by omega), q_aa, if_pos rfl, q_aa, if_pos rfl, u_at, u_at, if_neg (by omega), if_neg (by omega)]
            exact h2 j (by omega)
    exact main fu 0 m1 (by omega) (by unfold fu; omega) (Fr.rf m1) (fun j hj => by omega) (fun j _ => ⟨rfl, rfl⟩)
  obtain ⟨m2, b1, b2, b3, b4⟩ := b265
  rw [b1]
  -- the metres
  obtain ⟨m3, c1, c2, c3, -⟩ := copy_lp (m := m2) (R := 11) (N := 16) (off := 8) (n := 8) (by omega) (by omega) (by omega) F_X12_read_b309 (nI it) (fun s => F_X12_read_b338 fu (nI it) 0 s) (fun q k s hk h1 h2 => by
    rw [F_X12_read_b309]
    refine ⟨fun e => ?_, fun e => ?_⟩
    · rw [if_pos (show (8 : Int32) ≤ nI k from nI_le (a := 8) (by omega) (by omega)), nm_at]
    · rw [if_neg (show ¬ (8 : Int32) ≤ nI k from nI_ge (b := 8) e (by omega)), show (8 : Int32) + nI k = nI (8 + k) from nI_add 8 k, agN (by omega) (by omega), Option.bind_some, asN _ (by omega) (by omega), Option.bind_some, nm_at, nm_at, nI_1]) fu (by unfold fu; omega)
  rw [show F_X12_read_b309 fu (nI it) 0 m2 = _ from c1]
  -- the lines, and the rest
  have i3 : ∀ k, mI m3 k = mI m k := fun k => by rw [c2.1 k (by simp), b2.1 k (by simp), a2.1 k (by simp)]
  have r9 : ∀ k, k < 64 → mA m3 9 k = mA m 9 (64 + k) := fun k hk => by rw [c2.2.1 9 (by simp), b2.2.1 9 (by simp)]; exact a3 k hk
  have r10 : ∀ k, k < 18 → mA m3 10 k = mA m 10 (18 + k) := fun k hk => by rw [c2.2.1 10 (by simp), b3 k hk, a2.2.1 10 (by simp)]
  have r12 : ∀ k, k < 18 → mA m3 12 k = mA m 12 (18 + k) := fun k hk => by rw [c2.2.1 12 (by simp), b4 k hk, a2.2.1 12 (by simp)]
  have r11 : ∀ k, k < 8 → mA m3 11 k = mA m 11 (8 + k) := fun k hk => by rw [c3 k hk, b2.2.1 11 (by simp), a2.2.1 11 (by simp)]
  have r20 : mA m3 20 = mA m 20 := by rw [c2.2.1 20 (by simp), b2.2.1 20 (by simp), a2.2.1 20 (by simp)]
  have rT : mT m3 = mT m := by rw [c2.2.2.2, b2.2.2.2, a2.2.2.2]
  refine lp_up (fun q v s => F_X12_read_b338 q (nI it) v s) 24 (fun k s => Fr [] [21] [] m3 s ∧ ∀ j, j < k → mA s 21 (1 + j) = mA m 20 j) _ ?_ ?_ fu 0 m3 (by omega) (by unfold fu; omega) ⟨Fr.rf m3, fun j hj => by omega⟩
  · intro q k s hk ⟨g1, g2⟩ hK
    show An (F_X12_read_b338 (q + 1) (nI it) (nI k) s) _
    rw [F_X12_read_b338, if_neg (show ¬ (24 : Int32) ≤ nI k from nI_ge (b := 24) hk (by omega)), agN (by omega) (by omega), Option.bind_some, show (1 : Int32) + nI k = nI (1 + k) from nI_add 1 k, asN _ (by omega) (by omega), Option.bind_some, nm_at, nm_at, nI_1]
    refine hK _ ⟨g1.a 21 _ (by simp), fun j hj => ?_⟩
    rw [q_aa, if_pos rfl, u_at]
    by_cases y : j = k
    · rw [if_pos (by omega), g1.2.1 20 (by simp), r20, y]
    · rw [if_neg (by omega)]; exact g2 j (by omega)
  · intro q s ⟨g1, g2⟩
    have j3 : ∀ k, mI s k = mI m k := fun k => (g1.1 k (by simp)).trans (i3 k)
    show An (F_X12_read_b338 (q + 1) (nI it) (nI 24) s) _
    rw [F_X12_read_b338, if_pos (show (24 : Int32) ≤ nI 24 from nI_le (a := 24) (by omega) (by omega))]
    simp only [nm_at]
    simp (disch := omega) only [bool0, j3, d16, d17, d18, d19, and_true, true_and, and_false, false_and, or_true, true_or, or_false, false_or, not_true_eq_false, not_false_eq_true, nm_at, Option.bind_some, if_true, if_false, ↓k_m1, ↓k_m2, ↓k_m3, ↓k_m5, ↓k_m9, ↓k_m10, ↓k_mno, k_0, k_1, k_2, k_3, k_4, k_5, k_6, k_7, k_8, k_9, k_10, k_11, k_12, k_13, k_14, k_15, k_16, k_17, k_18, k_19, k_20, k_21, k_22, k_23, k_24, k_25, k_26, k_27, k_28, k_29, k_30, k_31, k_32, k_36, k_48, k_50, k_57, k_58, k_59, k_64, k_97, k_99, k_100, k_101, k_102, k_104, k_105, k_107, k_108, k_109, k_110, k_111, k_114, k_115, k_116, k_119, k_122, k_128, k_255, k_500, k_1000, k_1023, k_10000, k_100000, nI_add, nI_mul, nI_sub, nI_sub0, nI_leI, nI_ltI, nI_eq, nM_lt, nM_le, nM_nlt, nM_nle, nM_ne, nM_ne', nM_eq, q_ii, q_ia, q_ij, q_it, q_aa, q_ai, q_aj, q_at, q_jj, q_ji, q_ja, q_jt, q_tt, q_ti, q_ta, q_tj, u_at, uL_at, Nat.zero_mul, Nat.mul_zero, Nat.one_mul, Nat.mul_one, Nat.zero_add, Nat.add_zero, nI_toInt, agN, asN, agLN, asLN, atvN, setvN, if_pos, if_neg]
    refine An_some ⟨rfl, ⟨?_, ?_, ?_, ?_, ?_⟩, ?_, ?_, ?_, ?_, ?_, ?_, ?_, ?_⟩
    · simp (disch := omega) only [and_true, true_and, and_false, false_and, or_true, true_or, or_false, false_or, not_true_eq_false, not_false_eq_true, nm_at, Option.bind_some, if_true, if_false, ↓k_m1, ↓k_m2, ↓k_m3, ↓k_m5, ↓k_m9, ↓k_m10, ↓k_mno, k_0, k_1, k_2, k_3, k_4, k_5, k_6, k_7, k_8, k_9, k_10, k_11, k_12, k_13, k_14, k_15, k_16, k_17, k_18, k_19, k_20, k_21, k_22, k_23, k_24, k_25, k_26, k_27, k_28, k_29, k_30, k_31, k_32, k_36, k_48, k_50, k_57, k_58, k_59, k_64, k_97, k_99, k_100, k_101, k_102, k_104, k_105, k_107, k_108, k_109, k_110, k_111, k_114, k_115, k_116, k_119, k_122, k_128, k_255, k_500, k_1000, k_1023, k_10000, k_100000, nI_add, nI_mul, nI_sub, nI_sub0, nI_leI, nI_ltI, nI_eq, nM_lt, nM_le, nM_nlt, nM_nle, nM_ne, nM_ne', nM_eq, q_ii, q_ia, q_ij, q_it, q_aa, q_ai, q_aj, q_at, q_jj, q_ji, q_ja, q_jt, q_tt, q_ti, q_ta, q_tj, u_at, uL_at, Nat.zero_mul, Nat.mul_zero, Nat.one_mul, Nat.mul_one, Nat.zero_add, Nat.add_zero, nI_toInt, agN, asN, agLN, asLN, atvN, setvN, if_pos, if_neg]
    · simp (disch := omega) only [and_true, true_and, and_false, false_and, or_true, true_or, or_false, false_or, not_true_eq_false, not_false_eq_true, nm_at, Option.bind_some, if_true, if_false, ↓k_m1, ↓k_m2, ↓k_m3, ↓k_m5, ↓k_m9, ↓k_m10, ↓k_mno, k_0, k_1, k_2, k_3, k_4, k_5, k_6, k_7, k_8, k_9, k_10, k_11, k_12, k_13, k_14, k_15, k_16, k_17, k_18, k_19, k_20, k_21, k_22, k_23, k_24, k_25, k_26, k_27, k_28, k_29, k_30, k_31, k_32, k_36, k_48, k_50, k_57, k_58, k_59, k_64, k_97, k_99, k_100, k_101, k_102, k_104, k_105, k_107, k_108, k_109, k_110, k_111, k_114, k_115, k_116, k_119, k_122, k_128, k_255, k_500, k_1000, k_1023, k_10000, k_100000, nI_add, nI_mul, nI_sub, nI_sub0, nI_leI, nI_ltI, nI_eq, nM_lt, nM_le, nM_nlt, nM_nle, nM_ne, nM_ne', nM_eq, q_ii, q_ia, q_ij, q_it, q_aa, q_ai, q_aj, q_at, q_jj, q_ji, q_ja, q_jt, q_tt, q_ti, q_ta, q_tj, u_at, uL_at, Nat.zero_mul, Nat.mul_zero, Nat.one_mul, Nat.mul_one, Nat.zero_add, Nat.add_zero, nI_toInt, agN, asN, agLN, asLN, atvN, setvN, if_pos, if_neg]
    · simp (disch := omega) only [and_true, true_and, and_false, false_and, or_true, true_or, or_false, false_or, not_true_eq_false, not_false_eq_true, nm_at, Option.bind_some, if_true, if_false, ↓k_m1, ↓k_m2, ↓k_m3, ↓k_m5, ↓k_m9, ↓k_m10, ↓k_mno, k_0, k_1, k_2, k_3, k_4, k_5, k_6, k_7, k_8, k_9, k_10, k_11, k_12, k_13, k_14, k_15, k_16, k_17, k_18, k_19, k_20, k_21, k_22, k_23, k_24, k_25, k_26, k_27, k_28, k_29, k_30, k_31, k_32, k_36, k_48, k_50, k_57, k_58, k_59, k_64, k_97, k_99, k_100, k_101, k_102, k_104, k_105, k_107, k_108, k_109, k_110, k_111, k_114, k_115, k_116, k_119, k_122, k_128, k_255, k_500, k_1000, k_1023, k_10000, k_100000, nI_add, nI_mul, nI_sub, nI_sub0, nI_leI, nI_ltI, nI_eq, nM_lt, nM_le, nM_nlt, nM_nle, nM_ne, nM_ne', nM_eq, q_ii, q_ia, q_ij, q_it, q_aa, q_ai, q_aj, q_at, q_jj, q_ji, q_ja, q_jt, q_tt, q_ti, q_ta, q_tj, u_at, uL_at, Nat.zero_mul, Nat.mul_zero, Nat.one_mul, Nat.mul_one, Nat.zero_add, Nat.add_zero, nI_toInt, agN, asN, agLN, asLN, atvN, setvN, if_pos, if_neg]
    · simp (disch := omega) only [and_true, true_and, and_false, false_and, or_true, true_or, or_false, false_or, not_true_eq_false, not_false_eq_true, nm_at, Option.bind_some, if_true, if_false, ↓k_m1, ↓k_m2, ↓k_m3, ↓k_m5, ↓k_m9, ↓k_m10, ↓k_mno, k_0, k_1, k_2, k_3, k_4, k_5, k_6, k_7, k_8, k_9, k_10, k_11, k_12, k_13, k_14, k_15, k_16, k_17, k_18, k_19, k_20, k_21, k_22, k_23, k_24, k_25, k_26, k_27, k_28, k_29, k_30, k_31, k_32, k_36, k_48, k_50, k_57, k_58, k_59, k_64, k_97, k_99, k_100, k_101, k_102, k_104, k_105, k_107, k_108, k_109, k_110, k_111, k_114, k_115, k_116, k_119, k_122, k_128, k_255, k_500, k_1000, k_1023, k_10000, k_100000, nI_add, nI_mul, nI_sub, nI_sub0, nI_leI, nI_ltI, nI_eq, nM_lt, nM_le, nM_nlt, nM_nle, nM_ne, nM_ne', nM_eq, q_ii, q_ia, q_ij, q_it, q_aa, q_ai, q_aj, q_at, q_jj, q_ji, q_ja, q_jt, q_tt, q_ti, q_ta, q_tj, u_at, uL_at, Nat.zero_mul, Nat.mul_zero, Nat.one_mul, Nat.mul_one, Nat.zero_add, Nat.add_zero, nI_toInt, agN, asN, agLN, asLN, atvN, setvN, if_pos, if_neg]
    · simp (disch := omega) only [and_true, true_and, and_false, false_and, or_true, true_or, or_false, false_or, not_true_eq_false, not_false_eq_true, nm_at, Option.bind_some, if_true, if_false, ↓k_m1, ↓k_m2, ↓k_m3, ↓k_m5, ↓k_m9, ↓k_m10, ↓k_mno, k_0, k_1, k_2, k_3, k_4, k_5, k_6, k_7, k_8, k_9, k_10, k_11, k_12, k_13, k_14, k_15, k_16, k_17, k_18, k_19, k_20, k_21, k_22, k_23, k_24, k_25, k_26, k_27, k_28, k_29, k_30, k_31, k_32, k_36, k_48, k_50, k_57, k_58, k_59, k_64, k_97, k_99, k_100, k_101, k_102, k_104, k_105, k_107, k_108, k_109, k_110, k_111, k_114, k_115, k_116, k_119, k_122, k_128, k_255, k_500, k_1000, k_1023, k_10000, k_100000, nI_add, nI_mul, nI_sub, nI_sub0, nI_leI, nI_ltI, nI_eq, nM_lt, nM_le, nM_nlt, nM_nle, nM_ne, nM_ne', nM_eq, q_ii, q_ia, q_ij, q_it, q_aa, q_ai, q_aj, q_at, q_jj, q_ji, q_ja, q_jt, q_tt, q_ti, q_ta, q_tj, u_at, uL_at, Nat.zero_mul, Nat.mul_zero, Nat.one_mul, Nat.mul_one, Nat.zero_add, Nat.add_zero, nI_toInt, agN, asN, agLN, asLN, atvN, setvN, if_pos, if_neg]
    · refine ⟨h16, dW.2.1, fun w hw => ?_⟩
      have e := dW.2.2 w hw
      have q9 : ∀ k, k < 64 → mA s 9 k = mA m 9 (64 + k) := fun k hk => by rw [g1.2.1 9 (by simp)]; exact r9 k hk
      simp (disch := omega) only [and_true, true_and, and_false, false_and, or_true, true_or, or_false, false_or, not_true_eq_false, not_false_eq_true, nm_at, Option.bind_some, if_true, if_false, ↓k_m1, ↓k_m2, ↓k_m3, ↓k_m5, ↓k_m9, ↓k_m10, ↓k_mno, k_0, k_1, k_2, k_3, k_4, k_5, k_6, k_7, k_8, k_9, k_10, k_11, k_12, k_13, k_14, k_15, k_16, k_17, k_18, k_19, k_20, k_21, k_22, k_23, k_24, k_25, k_26, k_27, k_28, k_29, k_30, k_31, k_32, k_36, k_48, k_50, k_57, k_58, k_59, k_64, k_97, k_99, k_100, k_101, k_102, k_104, k_105, k_107, k_108, k_109, k_110, k_111, k_114, k_115, k_116, k_119, k_122, k_128, k_255, k_500, k_1000, k_1023, k_10000, k_100000, nI_add, nI_mul, nI_sub, nI_sub0, nI_leI, nI_ltI, nI_eq, nM_lt, nM_le, nM_nlt, nM_nle, nM_ne, nM_ne', nM_eq, q_ii, q_ia, q_ij, q_it, q_aa, q_ai, q_aj, q_at, q_jj, q_ji, q_ja, q_jt, q_tt, q_ti, q_ta, q_tj, u_at, uL_at, Nat.zero_mul, Nat.mul_zero, Nat.one_mul, Nat.mul_one, Nat.zero_add, Nat.add_zero, nI_toInt, agN, asN, agLN, asLN, atvN, setvN, if_pos, if_neg]
      rw [q9 _ (by omega), q9 _ (by omega), q9 _ (by omega), q9 _ (by omega)]
      exact e
    · refine ⟨hF2, dF.2.1, fun f hf => ?_⟩
      obtain ⟨l, e1, e2, e3, e4, e5⟩ := dF.2.2 f hf
      have q10 : ∀ k, k < 18 → mA s 10 k = mA m 10 (18 + k) := fun k hk => by rw [g1.2.1 10 (by simp)]; exact r10 k hk
      refine ⟨l, e1, e2, ?_, e4, fun k hk => ?_⟩
      · simp (disch := omega) only [and_true, true_and, and_false, false_and, or_true, true_or, or_false, false_or, not_true_eq_false, not_false_eq_true, nm_at, Option.bind_some, if_true, if_false, ↓k_m1, ↓k_m2, ↓k_m3, ↓k_m5, ↓k_m9, ↓k_m10, ↓k_mno, k_0, k_1, k_2, k_3, k_4, k_5, k_6, k_7, k_8, k_9, k_10, k_11, k_12, k_13, k_14, k_15, k_16, k_17, k_18, k_19, k_20, k_21, k_22, k_23, k_24, k_25, k_26, k_27, k_28, k_29, k_30, k_31, k_32, k_36, k_48, k_50, k_57, k_58, k_59, k_64, k_97, k_99, k_100, k_101, k_102, k_104, k_105, k_107, k_108, k_109, k_110, k_111, k_114, k_115, k_116, k_119, k_122, k_128, k_255, k_500, k_1000, k_1023, k_10000, k_100000, nI_add, nI_mul, nI_sub, nI_sub0, nI_leI, nI_ltI, nI_eq, nM_lt, nM_le, nM_nlt, nM_nle, nM_ne, nM_ne', nM_eq, q_ii, q_ia, q_ij, q_it, q_aa, q_ai, q_aj, q_at, q_jj, q_ji, q_ja, q_jt, q_tt, q_ti, q_ta, q_tj, u_at, uL_at, Nat.zero_mul, Nat.mul_zero, Nat.one_mul, Nat.mul_one, Nat.zero_add, Nat.add_zero, nI_toInt, agN, asN, agLN, asLN, atvN, setvN, if_pos, if_neg]
        rw [q10 _ (by omega)]; exact e3
      · simp (disch := omega) only [and_true, true_and, and_false, false_and, or_true, true_or, or_false, false_or, not_true_eq_false, not_false_eq_true, nm_at, Option.bind_some, if_true, if_false, ↓k_m1, ↓k_m2, ↓k_m3, ↓k_m5, ↓k_m9, ↓k_m10, ↓k_mno, k_0, k_1, k_2, k_3, k_4, k_5, k_6, k_7, k_8, k_9, k_10, k_11, k_12, k_13, k_14, k_15, k_16, k_17, k_18, k_19, k_20, k_21, k_22, k_23, k_24, k_25, k_26, k_27, k_28, k_29, k_30, k_31, k_32, k_36, k_48, k_50, k_57, k_58, k_59, k_64, k_97, k_99, k_100, k_101, k_102, k_104, k_105, k_107, k_108, k_109, k_110, k_111, k_114, k_115, k_116, k_119, k_122, k_128, k_255, k_500, k_1000, k_1023, k_10000, k_100000, nI_add, nI_mul, nI_sub, nI_sub0, nI_leI, nI_ltI, nI_eq, nM_lt, nM_le, nM_nlt, nM_nle, nM_ne, nM_ne', nM_eq, q_ii, q_ia, q_ij, q_it, q_aa, q_ai, q_aj, q_at, q_jj, q_ji, q_ja, q_jt, q_tt, q_ti, q_ta, q_tj, u_at, uL_at, Nat.zero_mul, Nat.mul_zero, Nat.one_mul, Nat.mul_one, Nat.zero_add, Nat.add_zero, nI_toInt, agN, asN, agLN, asLN, atvN, setvN, if_pos, if_neg]
        rw [q10 _ (by omega)]; exact e5 k hk
    · intro l hl
      simp (disch := omega) only [and_true, true_and, and_false, false_and, or_true, true_or, or_false, false_or, not_true_eq_false, not_false_eq_true, nm_at, Option.bind_some, if_true, if_false, ↓k_m1, ↓k_m2, ↓k_m3, ↓k_m5, ↓k_m9, ↓k_m10, ↓k_mno, k_0, k_1, k_2, k_3, k_4, k_5, k_6, k_7, k_8, k_9, k_10, k_11, k_12, k_13, k_14, k_15, k_16, k_17, k_18, k_19, k_20, k_21, k_22, k_23, k_24, k_25, k_26, k_27, k_28, k_29, k_30, k_31, k_32, k_36, k_48, k_50, k_57, k_58, k_59, k_64, k_97, k_99, k_100, k_101, k_102, k_104, k_105, k_107, k_108, k_109, k_110, k_111, k_114, k_115, k_116, k_119, k_122, k_128, k_255, k_500, k_1000, k_1023, k_10000, k_100000, nI_add, nI_mul, nI_sub, nI_sub0, nI_leI, nI_ltI, nI_eq, nM_lt, nM_le, nM_nlt, nM_nle, nM_ne, nM_ne', nM_eq, q_ii, q_ia, q_ij, q_it, q_aa, q_ai, q_aj, q_at, q_jj, q_ji, q_ja, q_jt, q_tt, q_ti, q_ta, q_tj, u_at, uL_at, Nat.zero_mul, Nat.mul_zero, Nat.one_mul, Nat.mul_one, Nat.zero_add, Nat.add_zero, nI_toInt, agN, asN, agLN, asLN, atvN, setvN, if_pos, if_neg]
      rw [g1.2.1 11 (by simp), r11 l hl]
      exact dM l hl
    · refine dP.cg fun j hj => ?_
      simp (disch := omega) only [and_true, true_and, and_false, false_and, or_true, true_or, or_false, false_or, not_true_eq_false, not_false_eq_true, nm_at, Option.bind_some, if_true, if_false, ↓k_m1, ↓k_m2, ↓k_m3, ↓k_m5, ↓k_m9, ↓k_m10, ↓k_mno, k_0, k_1, k_2, k_3, k_4, k_5, k_6, k_7, k_8, k_9, k_10, k_11, k_12, k_13, k_14, k_15, k_16, k_17, k_18, k_19, k_20, k_21, k_22, k_23, k_24, k_25, k_26, k_27, k_28, k_29, k_30, k_31, k_32, k_36, k_48, k_50, k_57, k_58, k_59, k_64, k_97, k_99, k_100, k_101, k_102, k_104, k_105, k_107, k_108, k_109, k_110, k_111, k_114, k_115, k_116, k_119, k_122, k_128, k_255, k_500, k_1000, k_1023, k_10000, k_100000, nI_add, nI_mul, nI_sub, nI_sub0, nI_leI, nI_ltI, nI_eq, nM_lt, nM_le, nM_nlt, nM_nle, nM_ne, nM_ne', nM_eq, q_ii, q_ia, q_ij, q_it, q_aa, q_ai, q_aj, q_at, q_jj, q_ji, q_ja, q_jt, q_tt, q_ti, q_ta, q_tj, u_at, uL_at, Nat.zero_mul, Nat.mul_zero, Nat.one_mul, Nat.mul_one, Nat.zero_add, Nat.add_zero, nI_toInt, agN, asN, agLN, asLN, atvN, setvN, if_pos, if_neg]
      exact g2 j (by omega)
    · refine dS.cg fun j hj => ?_
      simp (disch := omega) only [and_true, true_and, and_false, false_and, or_true, true_or, or_false, false_or, not_true_eq_false, not_false_eq_true, nm_at, Option.bind_some, if_true, if_false, ↓k_m1, ↓k_m2, ↓k_m3, ↓k_m5, ↓k_m9, ↓k_m10, ↓k_mno, k_0, k_1, k_2, k_3, k_4, k_5, k_6, k_7, k_8, k_9, k_10, k_11, k_12, k_13, k_14, k_15, k_16, k_17, k_18, k_19, k_20, k_21, k_22, k_23, k_24, k_25, k_26, k_27, k_28, k_29, k_30, k_31, k_32, k_36, k_48, k_50, k_57, k_58, k_59, k_64, k_97, k_99, k_100, k_101, k_102, k_104, k_105, k_107, k_108, k_109, k_110, k_111, k_114, k_115, k_116, k_119, k_122, k_128, k_255, k_500, k_1000, k_1023, k_10000, k_100000, nI_add, nI_mul, nI_sub, nI_sub0, nI_leI, nI_ltI, nI_eq, nM_lt, nM_le, nM_nlt, nM_nle, nM_ne, nM_ne', nM_eq, q_ii, q_ia, q_ij, q_it, q_aa, q_ai, q_aj, q_at, q_jj, q_ji, q_ja, q_jt, q_tt, q_ti, q_ta, q_tj, u_at, uL_at, Nat.zero_mul, Nat.mul_zero, Nat.one_mul, Nat.mul_one, Nat.zero_add, Nat.add_zero, nI_toInt, agN, asN, agLN, asLN, atvN, setvN, if_pos, if_neg]
      rw [g1.2.1 12 (by simp), r12 j (by omega)]
    · simp (disch := omega) only [and_true, true_and, and_false, false_and, or_true, true_or, or_false, false_or, not_true_eq_false, not_false_eq_true, nm_at, Option.bind_some, if_true, if_false, ↓k_m1, ↓k_m2, ↓k_m3, ↓k_m5, ↓k_m9, ↓k_m10, ↓k_mno, k_0, k_1, k_2, k_3, k_4, k_5, k_6, k_7, k_8, k_9, k_10, k_11, k_12, k_13, k_14, k_15, k_16, k_17, k_18, k_19, k_20, k_21, k_22, k_23, k_24, k_25, k_26, k_27, k_28, k_29, k_30, k_31, k_32, k_36, k_48, k_50, k_57, k_58, k_59, k_64, k_97, k_99, k_100, k_101, k_102, k_104, k_105, k_107, k_108, k_109, k_110, k_111, k_114, k_115, k_116, k_119, k_122, k_128, k_255, k_500, k_1000, k_1023, k_10000, k_100000, nI_add, nI_mul, nI_sub, nI_sub0, nI_leI, nI_ltI, nI_eq, nM_lt, nM_le, nM_nlt, nM_nle, nM_ne, nM_ne', nM_eq, q_ii, q_ia, q_ij, q_it, q_aa, q_ai, q_aj, q_at, q_jj, q_ji, q_ja, q_jt, q_tt, q_ti, q_ta, q_tj, u_at, uL_at, Nat.zero_mul, Nat.mul_zero, Nat.one_mul, Nat.mul_one, Nat.zero_add, Nat.add_zero, nI_toInt, agN, asN, agLN, asLN, atvN, setvN, if_pos, if_neg]
    · simp (disch := omega) only [and_true, true_and, and_false, false_and, or_true, true_or, or_false, false_or, not_true_eq_false, not_false_eq_true, nm_at, Option.bind_some, if_true, if_false, ↓k_m1, ↓k_m2, ↓k_m3, ↓k_m5, ↓k_m9, ↓k_m10, ↓k_mno, k_0, k_1, k_2, k_3, k_4, k_5, k_6, k_7, k_8, k_9, k_10, k_11, k_12, k_13, k_14, k_15, k_16, k_17, k_18, k_19, k_20, k_21, k_22, k_23, k_24, k_25, k_26, k_27, k_28, k_29, k_30, k_31, k_32, k_36, k_48, k_50, k_57, k_58, k_59, k_64, k_97, k_99, k_100, k_101, k_102, k_104, k_105, k_107, k_108, k_109, k_110, k_111, k_114, k_115, k_116, k_119, k_122, k_128, k_255, k_500, k_1000, k_1023, k_10000, k_100000, nI_add, nI_mul, nI_sub, nI_sub0, nI_leI, nI_ltI, nI_eq, nM_lt, nM_le, nM_nlt, nM_nle, nM_ne, nM_ne', nM_eq, q_ii, q_ia, q_ij, q_it, q_aa, q_ai, q_aj, q_at, q_jj, q_ji, q_ja, q_jt, q_tt, q_ti, q_ta, q_tj, u_at, uL_at, Nat.zero_mul, Nat.mul_zero, Nat.one_mul, Nat.mul_one, Nat.zero_add, Nat.add_zero, nI_toInt, agN, asN, agLN, asLN, atvN, setvN, if_pos, if_neg]
    · simp (disch := omega) only [and_true, true_and, and_false, false_and, or_true, true_or, or_false, false_or, not_true_eq_false, not_false_eq_true, nm_at, Option.bind_some, if_true, if_false, ↓k_m1, ↓k_m2, ↓k_m3, ↓k_m5, ↓k_m9, ↓k_m10, ↓k_mno, k_0, k_1, k_2, k_3, k_4, k_5, k_6, k_7, k_8, k_9, k_10, k_11, k_12, k_13, k_14, k_15, k_16, k_17, k_18, k_19, k_20, k_21, k_22, k_23, k_24, k_25, k_26, k_27, k_28, k_29, k_30, k_31, k_32, k_36, k_48, k_50, k_57, k_58, k_59, k_64, k_97, k_99, k_100, k_101, k_102, k_104, k_105, k_107, k_108, k_109, k_110, k_111, k_114, k_115, k_116, k_119, k_122, k_128, k_255, k_500, k_1000, k_1023, k_10000, k_100000, nI_add, nI_mul, nI_sub, nI_sub0, nI_leI, nI_ltI, nI_eq, nM_lt, nM_le, nM_nlt, nM_nle, nM_ne, nM_ne', nM_eq, q_ii, q_ia, q_ij, q_it, q_aa, q_ai, q_aj, q_at, q_jj, q_ji, q_ja, q_jt, q_tt, q_ti, q_ta, q_tj, u_at, uL_at, Nat.zero_mul, Nat.mul_zero, Nat.one_mul, Nat.mul_one, Nat.zero_add, Nat.add_zero, nI_toInt, agN, asN, agLN, asLN, atvN, setvN, if_pos, if_neg]
      rw [g1.2.2.2, rT]
theorem neg10 : ∀ f : Fin 1000, ¬ (0 : Int32) ≤ -10 - nI f.val := by decide +kernel
theorem WR.cg {s : S10} {W : Nat} {r r2 : Nat → Int32} (h : WR s W r) (e : ∀ k, k < 4 * W → r2 k = r k) : WR s W r2 := by
  refine ⟨h.1, h.2.1, fun w hw => ?_⟩
  rw [e _ (by omega), e _ (by omega), e _ (by omega), e _ (by omega)]
  exact h.2.2 w hw
theorem FR.cg {s : S1} {F : Nat} {r r2 : Nat → Int32} (h : FR s F r) (e : ∀ k, k < 9 * F → r2 k = r k) : FR s F r2 := by
  refine ⟨h.1, h.2.1, fun f hf => ?_⟩
  obtain ⟨l, e1, e2, e3, e4, e5⟩ := h.2.2 f hf
  refine ⟨l, e1, e2, by rw [e _ (by omega)]; exact e3, e4, fun k hk => ?_⟩
  rw [e _ (by omega)]
  exact e5 k hk
/-- a text that has a fault changes nothing -/
theorem IV.pd {o : S11} {tx tx' : S8} {tr row i1 i2 : S4} {t7 : S7} {t10 : S10} {t1 : S1} {tp ts pp ps pp' ps' : S4} {ms ms' : SM} (h : IV o tx tr row i1 i2 t7 t10 t1 tp ts pp ps ms) (hp : PD ms ms') (hx : ∀ T, TX tx T (mA ms 2) → TX tx' T (mA ms 2)) (h1 : s4_most pp' = nI 8) (h2 : s4_most ps' = nI 6) : IV o tx' tr row i1 i2 t7 t10 t1 tp ts pp' ps' ms' := by
  obtain ⟨W, F, P, S, T, ⟨hW, hF, hP, hS, hT⟩, hTX, hWR, hFR, hMR, hLP, hLS, hI1, hI2, hMo, hTr⟩ := h
  have h16 := hWR.1
  have hF2 := hFR.1
  have hS6 := hLS.1
  refine ⟨W, F, P, S, T, ⟨?_, ?_, ?_, ?_, ?_⟩, ?_, ?_, ?_, ?_, ?_, ?_, ?_, ?_, ⟨hMo.1, hMo.2.1, h1, h2⟩, ?_⟩
  · rw [hp.1 13 (by decide)]; exact hW
  · rw [hp.1 14 (by decide)]; exact hF
  · rw [hp.2.1 21 (by decide)]; exact hP
  · rw [hp.1 15 (by decide)]; exact hS
  · rw [hp.1 3 (by decide)]; exact hT
  · rw [hp.2.1 2 (by decide)]; exact hx T hTX
  · exact hWR.cg fun k hk => hp.2.2.1 k (by omega)
  · exact hFR.cg fun k hk => hp.2.2.2.1 k (by omega)
  · intro l hl
    rw [hp.2.2.2.2.1 l hl]; exact hMR l hl
  · rw [hp.2.1 21 (by decide)]; exact hLP
  · exact hLS.cg fun k hk => hp.2.2.2.2.2.1 k (by omega)
  · exact hI1.rest rfl (by rw [hp.2.1 23 (by decide)]) (fun j _ => by rw [hp.2.1 22 (by decide)])
  · exact hI2.rest rfl (by rw [hp.2.1 23 (by decide)]) (fun j _ => by rw [hp.2.1 22 (by decide)])
  · rw [hp.2.2.2.2.2.2.2]; exact hTr
/-- a new text: nothing told yet -/
theorem wipe_t (p7 : S7) (p1 : S1) (pp ps : S4) (p10 : S10) (h1 : s4_most pp = nI 8) (h2 : s4_most ps = nI 6) {m : SM} (h16 : mI m 16 = nI 0) (h17 : mI m 17 = nI 0) (h19 : mI m 19 = nI 0) (h18 : mI m 18 = nI 0) (h11 : ∀ k, k < 8 → mA m 11 (8 + k) = nI 0) : ∃ u7 u1 up us u10, F_X7_wipe p7 p1 pp ps p10 = some (u7, u1, up, us, u10) ∧ DR 0 0 0 0 u7 u10 u1 up us m := by
  obtain ⟨g, g1, g2⟩ := fill_t (n := 8) (by omega) (s7_metres p7) 0
  refine ⟨g, u1_size p1 0, u4_size pp 0, u4_size ps 0, u10_size p10 0, ?_, ⟨h16, h17, h19, h18⟩, ?_, ?_, ?_, ?_, ?_⟩
  · unfold F_X7_wipe F_X10_wipe F_X1_wipe F_X4_wipe
    simp only [nm_at, Option.bind_some]
    rw [g1]
    rfl
  · exact ⟨by omega, rfl, fun w hw => by omega⟩
  · exact ⟨by omega, rfl, fun f hf => by omega⟩
  · intro l hl
    show Lb (mA m 11 (8 + l)) 21 ∧ g l = mA m 11 (8 + l)
    rw [h11 l hl, g2 l hl]
    exact ⟨⟨0, by omega, rfl⟩, rfl⟩
  · exact ⟨by omega, h1, ⟨rfl, fun j hj => by omega⟩, fun i hi => by omega⟩
  · exact ⟨by omega, h2, ⟨rfl, fun j hj => by omega⟩, fun i hi => by omega⟩
theorem read0_t (ms : SM) : ∃ m, F_X12_read ms = (F_X12_advances m).bind (fun q_46 => F_X12_read_b63 fu 0 q_46) ∧ PD ms m ∧ mI m 8 = nM 1 ∧ mI m 4 = nI 0 ∧ mI m 16 = nI 0 ∧ mI m 17 = nI 0 ∧ mI m 19 = nI 0 ∧ mI m 18 = nI 0 ∧ ∀ k, k < 8 → mA m 11 (8 + k) = nI 0 := by
  obtain ⟨m0, em⟩ : ∃ z, z = mIs (mIs (mIs (mIs (mIs (mIs (mIs ms 0 0) 8 (-1)) 4 0) 16 0) 17 0) 19 0) 18 0 := ⟨_, rfl⟩
  have p0 : PD ms m0 := by
    rw [em]
    exact (((((((PD.rf ms).i 0 _ (by decide)).i 8 _ (by decide)).i 4 _ (by decide)).i 16 _ (by decide)).i 17 _ (by decide)).i 19 _ (by decide)).i 18 _ (by decide)
  have main : ∀ f k s, k ≤ 8 → 8 - k < f → Fr [] [11] [] m0 s → PD ms s → (∀ j, j < k → mA s 11 (8 + j) = nI 0) → ∃ s', F_X12_read_b40 f 0 (nI (8 + k)) s = (F_X12_advances s').bind (fun q_46 => F_X12_read_b63 fu 0 q_46) ∧ Fr [] [11] [] m0 s' ∧ PD ms s' ∧ ∀ j, j < 8 → mA s' 11 (8 + j) = nI 0 := by
    intro f
    induction f with
    | zero => intro k s _ h; omega
    | succ f ih =>
      intro k s hk hf g1 g2 g3
      rw [F_X12_read_b40]
      by_cases c : k = 8
      · rw [if_pos (show (16 : Int32) ≤ nI (8 + k) from nI_le (a := 16) (by omega) (by omega))]
        exact ⟨s, rfl, g1, g2, fun j hj => g3 j (by omega)⟩
      · rw [if_neg (show ¬ (16 : Int32) ≤ nI (8 + k) from nI_ge (b := 16) (by omega) (by omega)), asN _ (by omega) (by omega), Option.bind_some, nm_at, nm_at, nI_1, show 8 + k + 1 = 8 + (k + 1) from by omega]
        refine ih (k + 1) _ (by omega) (by omega) (g1.a 11 _ (by simp)) (g2.a 11 _ _ (Or.inr (Or.inr (Or.inl ⟨rfl, by omega⟩)))) (fun j hj => ?_)
        rw [q_aa, if_pos rfl, u_at]
        by_cases y : j = k
        · rw [if_pos (by omega)]; rfl
        · rw [if_neg (by omega)]; exact g3 j (by omega)
  obtain ⟨m, e1, e2, e3, e4⟩ := main fu 0 m0 (by omega) (by unfold fu; omega) (Fr.rf m0) p0 (fun j hj => by omega)
  refine ⟨m, ?_, e3, ?_, ?_, ?_, ?_, ?_, ?_, e4⟩
  · unfold F_X12_read
    rw [nm_at, nm_at, nm_at, nm_at, nm_at, nm_at, nm_at, nm_at, nm_at, ← em]
    exact e1
  · rw [e2.1 8 (by simp), em]; rfl
  · rw [e2.1 4 (by simp), em]; rfl
  · rw [e2.1 16 (by simp), em]; rfl
  · rw [e2.1 17 (by simp), em]; rfl
  · rw [e2.1 19 (by simp), em]; rfl
  · rw [e2.1 18 (by simp), em]; rfl
theorem op_read {st : SX} {ms : SM} (h : Inv st ms) (_ : Unit) : ∃ (r r2 : Int32) (st2 : SX) (ms2 : SM), X_read st = some (r, st2) ∧ M_read ms = some (r2, ms2) ∧ r = r2 ∧ Inv st2 ms2 := by
  obtain ⟨o, tx, ve, tr, me, gu, ch, row, i1, i2, t7, t10, t1, tp, ts, p7, p10, p1, pp, ps⟩ := st
  obtain ⟨W, F, P, S, T, ⟨hW, hF, hP, hS, hT⟩, hTX, hWR, hFR, hMR, hLP, hLS, hI1, hI2, hMo, hTr⟩ := (show IV o tx tr row i1 i2 t7 t10 t1 tp ts pp ps ms from h)
  have hP8 := hLP.1
  have hW16 := hWR.1
  have hF2 := hFR.1
  have hS6 := hLS.1
  have hs := hLP.2.2.1.1
  obtain ⟨m, e1, e2, e8, e4, e16, e17, e19, e18, e11⟩ := read0_t ms
  obtain ⟨u7, u1, up, us, u10, w1, w2⟩ := wipe_t p7 p1 pp ps p10 hMo.2.2.1 hMo.2.2.2 e16 e17 e19 e18 e11
  have hMT : MT m T (mA ms 2) := ⟨hTX.1, (e2.1 3 (by decide)).trans hT, e2.2.1 2 (by decide), fun k hk => ⟨(hTX.by hk).1, (hTX.by hk).2.1⟩⟩
  obtain ⟨m1, a1, a2, a3⟩ := advM_t hMT (Nat.zero_le T) e4
  obtain ⟨s, es⟩ : ∃ z, z = u8_sort (u8_end (u8_start tx 0) 0) 0 := ⟨_, rfl⟩
  have hs0 : TX s T (mA ms 2) := by rw [es]; exact hTX
  have he0 : s8_end s = nI 0 := by rw [es]; rfl
  have hl := tell_lp (T := T) (r := mA ms 2) (T + 1) 0 0 fu fu s m1 0 0 0 0 u7 u10 u1 up us (by omega) (by omega) (by omega) (by unfold fu; have := hTX.1; omega) (by unfold fu; have := hTX.1; omega) hs0 he0 (hMT.f a2) ⟨a3, (a2.1 8 (by decide)).trans e8⟩ (w2.fr (a2.wd (by decide) (fun _ z => z) (fun _ z => z)))
  have hcls : F_X5_tell tx p7 p1 pp ps p10 = F_X5_tell_b10 fu (nI 0) s u7 u1 up us u10 := by
    unfold F_X5_tell F_X8_rewind
    rw [w1, Option.bind_some, nm_at, nm_at, nm_at, Option.bind_some, nm_at, ← es]
    rfl
  have href : F_X12_read ms = F_X12_read_b63 fu (nI 0) m1 := by
    rw [e1, a1, Option.bind_some]
    rfl
  have p1' : PD ms m1 := e2.fr a2
  rcases hl with ⟨it, s', W2, F2, P2, S2, v7, v1, vp, vs, v10, m', z0, z1, z2, z3, z4, z5, z6⟩ | ⟨fl, v, s', v7, v1, vp, vs, v10, m', z0, z1, z2, z3, z4, z5, z6, z7⟩
  · obtain ⟨q, f1, f2, ⟨f3, f4, f5, f6, f7⟩, f8, f9, f10, f11, f12, f13, f14, f15⟩ := fin_t z6 it
    have x0 : F_X11_read_0 o p7 tx p1 pp ps p10 = none := by
      unfold F_X11_read_0
      rw [hcls, z1, Option.bind_some, nm_at, if_pos (show (0 : Int32) ≤ nI it from nI_pos' (by omega))]
      unfold F_X8_wipe
      rw [nm_at, Option.bind_some, nm_at]
    have x1 : F_X11_read_1 o p7 tx p1 pp ps p10 = some (nI it, u11_kept o 0, v7, u8_length s' 0, v1, vp, vs, v10) := by
      unfold F_X11_read_1
      rw [hcls, z1, Option.bind_some, nm_at, if_pos (show (0 : Int32) ≤ nI it from nI_pos' (by omega))]
      unfold F_X8_wipe
      rw [nm_at, Option.bind_some, nm_at]
    have hM : F_X12_read ms = some q := by
      rw [href, z3]
      unfold F_X12_read_b219
      rw [well_1 z4, Option.bind_some, if_neg (show ¬ (1 : Int32) = 0 from by decide), nm_at]
      exact f1
    refine ⟨nI it, q.1, (u11_kept o 0, u8_length s' 0, ve, tr, me, gu, ch, row, i1, i2, v7, v10, v1, vp, vs, t7, t10, t1, tp, ts), q.2, ?_, ?_, f2.symm, ?_⟩
    · unfold X_read
      simp only [x0, x1]
      rfl
    · unfold M_read; rw [hM]; rfl
    · have im : ∀ im c, s4_most im = nI 8 → mA q.2 23 c = 0 → IM (u11_kept o 0) im c W2 q.2 := by
        intro im c g1 g2
        refine ⟨g1, ?_, Or.inl g2, fun g => ?_⟩
        · rw [show s11_kept (u11_kept o 0) = 0 from rfl, tb_0, g2]
          exact ⟨fun g => (by cases g), fun g => absurd g (by decide)⟩
        · rw [g2] at g; exact absurd g (by decide)
      refine ⟨W2, F2, P2, S2, 0, ⟨f3, f4, f5, f6, f7⟩, ⟨by omega, rfl, fun k hk => by omega⟩, f8, f9, f10, f11, f12, im i1 0 hI1.1 f13, im i2 1 hI2.1 f14, ⟨hMo.1, hMo.2.1, hLP.2.1, hLS.2.1⟩, ?_⟩
      show s11_traced o = mT q.2
      rw [f15, z5.2.2.2.2.2.2.2, p1'.2.2.2.2.2.2.2]
      exact hTr
  · have hneg := neg10 ⟨fl, z0⟩
    have x0 : F_X11_read_0 o p7 tx p1 pp ps p10 = some (-10 - nI fl, o, v7, s', v1, vp, vs, v10) := by
      unfold F_X11_read_0
      rw [hcls, z1, Option.bind_some, nm_at, if_neg hneg]
    have hM : F_X12_read ms = some (-10 - nI fl, m') := by
      rw [href, z5]
      unfold F_X12_read_b219
      rw [well_0 z0 z6, Option.bind_some, if_pos rfl, z6]
    refine ⟨-10 - nI fl, -10 - nI fl, (o, s', ve, tr, me, gu, ch, row, i1, i2, t7, t10, t1, tp, ts, v7, v10, v1, vp, vs), m', ?_, ?_, rfl, ?_⟩
    · unfold X_read
      simp only [x0]
    · unfold M_read; rw [hM]; rfl
    · refine IV.pd (show IV o tx tr row i1 i2 t7 t10 t1 tp ts pp ps ms from h) (p1'.tr z7) (fun T2 hT2 => ?_) z3 z4
      have : T2 = T := by
        have e := hT2.2.1.symm.trans hTX.2.1
        rw [nI_eq (by have := hT2.1; omega) (by have := hTX.1; omega)] at e
        exact e
      rw [this]; exact z2
