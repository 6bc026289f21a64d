/-! ===== bound, struck, key ===== -/
def bsP (p : Nat → Prop) (r : Int32) : Prop := ∀ j, j < 32 → (tb r j = true ↔ p j)
theorem bs_uniq {p : Nat → Prop} {r r2 : Int32} (h : bsP p r) (h2 : bsP p r2) : r = r2 := by
  refine tb_ext fun j hj => ?_
  have e := (h j hj).trans (h2 j hj).symm
  cases a : tb r j <;> cases b : tb r2 j
  · rfl
  · exact absurd (e.mpr b) (by rw [a]; simp)
  · exact absurd (e.mp a) (by rw [b]; simp)
  · rfl
theorem bs_0 {p : Nat → Prop} (h : ∀ j, j < 32 → ¬ p j) : bsP p (nI 0) := by
  intro j hj
  rw [show nI 0 = 0 from rfl, tb_0]
  exact ⟨fun z => (by cases z), fun z => absurd z (h j hj)⟩
/-- things of lines, as bits -/
def thP (b : Nat → Prop) (r : Nat → Int32) (n : Nat) (j : Nat) : Prop := ∃ i, i < n ∧ b i ∧ cn (r (3 * i + 1)) = j
theorem th_up {b : Nat → Prop} {r : Nat → Int32} {m : Nat} {v : Int32} (h : bsP (thP b r m) v) (hb : b m) {t : Nat} (ht : t < 10) (e : r (3 * m + 1) = nI t) : bsP (thP b r (m + 1)) (v ||| (1 <<< (nI t &&& 31))) := by
  intro j hj
  rw [tb_or, tb_nI (by omega) j hj]
  simp only [Bool.or_eq_true, decide_eq_true_eq]
  rw [h j hj]
  unfold thP
  constructor
  · rintro (⟨i, h1, h2, h3⟩ | h1)
    · exact ⟨i, by omega, h2, h3⟩
    · exact ⟨m, by omega, hb, by rw [e, cn_nI (by omega), h1]⟩
  · rintro ⟨i, h1, h2, h3⟩
    by_cases k : i = m
    · rw [k, e, cn_nI (by omega)] at h3
      exact Or.inr h3.symm
    · exact Or.inl ⟨i, by omega, h2, h3⟩
theorem th_no {b : Nat → Prop} {r : Nat → Int32} {m : Nat} {v : Int32} (h : bsP (thP b r m) v) (hb : ¬ b m) : bsP (thP b r (m + 1)) v := by
  intro j hj
  rw [h j hj]
  unfold thP
  constructor
  · rintro ⟨i, h1, h2, h3⟩; exact ⟨i, by omega, h2, h3⟩
  · rintro ⟨i, h1, h2, h3⟩
    by_cases k : i = m
    · rw [k] at h2; exact absurd h2 hb
    · exact ⟨i, by omega, h2, h3⟩
theorem boundX_t {L : Nat → Nat} {ok : Nat → Bool} {rh : Nat → Nat → Bool} {n M W : Nat} {z : S9} {p : S4} {r : Nat → Int32} (hp : LR p n M W r) (hn : n ≤ 8) (h : VV L ok rh n n z) : An (F_X9_thingsOf p z) (bsP (thP (bnd L ok rh n) r n)) := by
  unfold F_X9_thingsOf
  simp (disch := omega) only [and_true, true_and, and_false, false_and, or_true, true_or, or_false, false_or, not_true_eq_false, not_false_eq_true, nm_at, Option.bind_some, if_true, if_false, ↓k_m1, ↓k_m2, ↓k_m3, ↓k_m5, ↓k_m9, ↓k_m10, ↓k_mno, k_0, k_1, k_2, k_3, k_4, k_5, k_6, k_7, k_8, k_9, k_10, k_11, k_12, k_13, k_14, k_15, k_16, k_17, k_18, k_19, k_20, k_21, k_22, k_23, k_24, k_25, k_26, k_27, k_28, k_29, k_30, k_31, k_32, k_36, k_48, k_50, k_57, k_58, k_59, k_64, k_97, k_99, k_100, k_101, k_102, k_104, k_105, k_107, k_108, k_109, k_110, k_111, k_114, k_115, k_116, k_119, k_122, k_128, k_255, k_500, k_1000, k_1023, k_10000, k_100000, nI_add, nI_mul, nI_sub, nI_sub0, nI_leI, nI_ltI, nI_eq, nM_lt, nM_le, nM_nlt, nM_nle, nM_ne, nM_ne', nM_eq, q_ii, q_ia, q_ij, q_it, q_aa, q_ai, q_aj, q_at, q_jj, q_ji, q_ja, q_jt, q_tt, q_ti, q_ta, q_tj, u_at, uL_at, Nat.zero_mul, Nat.mul_zero, Nat.one_mul, Nat.mul_one, Nat.zero_add, Nat.add_zero, nI_toInt, agN, asN, agLN, asLN, atvN, setvN, if_pos, if_neg]
  refine lp_up (fun q v (x : Int32) => F_X9_thingsOf_b4 p z q x v) n (fun m x => bsP (thP (bnd L ok rh n) r m) x) _ ?_ ?_ fu 0 (nI 0) (by omega) (by unfold fu; omega) (bs_0 fun j _ ⟨i, hi, _⟩ => by omega)
  · intro q m x hm hI hK
    obtain ⟨b, hb, e1, e2⟩ := binds_t h (i := m) (by omega)
    obtain ⟨-, t2, -⟩ := hp.2.2.1.at hm
    obtain ⟨-, ⟨t, ht, et⟩, -⟩ := hp.2.2.2 m hm
    show An (F_X9_thingsOf_b4 p z (q + 1) x (nI m)) _
    rw [F_X9_thingsOf_b4, h.1]
    unfold F_X9_thingsOf_b30
    by_cases c : b = 1
    · subst c
      simp (disch := omega) only [e1, thingAt_t, t2, et, and_true, true_and, and_false, false_and, or_true, true_or, or_false, false_or, not_true_eq_false, not_false_eq_true, nm_at, Option.bind_some, if_true, if_false, ↓k_m1, ↓k_m2, ↓k_m3, ↓k_m5, ↓k_m9, ↓k_m10, ↓k_mno, k_0, k_1, k_2, k_3, k_4, k_5, k_6, k_7, k_8, k_9, k_10, k_11, k_12, k_13, k_14, k_15, k_16, k_17, k_18, k_19, k_20, k_21, k_22, k_23, k_24, k_25, k_26, k_27, k_28, k_29, k_30, k_31, k_32, k_36, k_48, k_50, k_57, k_58, k_59, k_64, k_97, k_99, k_100, k_101, k_102, k_104, k_105, k_107, k_108, k_109, k_110, k_111, k_114, k_115, k_116, k_119, k_122, k_128, k_255, k_500, k_1000, k_1023, k_10000, k_100000, nI_add, nI_mul, nI_sub, nI_sub0, nI_leI, nI_ltI, nI_eq, nM_lt, nM_le, nM_nlt, nM_nle, nM_ne, nM_ne', nM_eq, q_ii, q_ia, q_ij, q_it, q_aa, q_ai, q_aj, q_at, q_jj, q_ji, q_ja, q_jt, q_tt, q_ti, q_ta, q_tj, u_at, uL_at, Nat.zero_mul, Nat.mul_zero, Nat.one_mul, Nat.mul_one, Nat.zero_add, Nat.add_zero, nI_toInt, agN, asN, agLN, asLN, atvN, setvN, if_pos, if_neg]
      exact hK _ (th_up hI (e2.mp rfl) ht et)
    · simp (disch := omega) only [e1, and_true, true_and, and_false, false_and, or_true, true_or, or_false, false_or, not_true_eq_false, not_false_eq_true, nm_at, Option.bind_some, if_true, if_false, ↓k_m1, ↓k_m2, ↓k_m3, ↓k_m5, ↓k_m9, ↓k_m10, ↓k_mno, k_0, k_1, k_2, k_3, k_4, k_5, k_6, k_7, k_8, k_9, k_10, k_11, k_12, k_13, k_14, k_15, k_16, k_17, k_18, k_19, k_20, k_21, k_22, k_23, k_24, k_25, k_26, k_27, k_28, k_29, k_30, k_31, k_32, k_36, k_48, k_50, k_57, k_58, k_59, k_64, k_97, k_99, k_100, k_101, k_102, k_104, k_105, k_107, k_108, k_109, k_110, k_111, k_114, k_115, k_116, k_119, k_122, k_128, k_255, k_500, k_1000, k_1023, k_10000, k_100000, nI_add, nI_mul, nI_sub, nI_sub0, nI_leI, nI_ltI, nI_eq, nM_lt, nM_le, nM_nlt, nM_nle, nM_ne, nM_ne', nM_eq, q_ii, q_ia, q_ij, q_it, q_aa, q_ai, q_aj, q_at, q_jj, q_ji, q_ja, q_jt, q_tt, q_ti, q_ta, q_tj, u_at, uL_at, Nat.zero_mul, Nat.mul_zero, Nat.one_mul, Nat.mul_one, Nat.zero_add, Nat.add_zero, nI_toInt, agN, asN, agLN, asLN, atvN, setvN, if_pos, if_neg]
      exact hK _ (th_no hI fun y => c (e2.mpr y))
  · intro q x hI
    show An (F_X9_thingsOf_b4 p z (q + 1) x (nI n)) _
    rw [F_X9_thingsOf_b4, h.1]
    simp (disch := omega) only [and_true, true_and, and_false, false_and, or_true, true_or, or_false, false_or, not_true_eq_false, not_false_eq_true, nm_at, Option.bind_some, if_true, if_false, ↓k_m1, ↓k_m2, ↓k_m3, ↓k_m5, ↓k_m9, ↓k_m10, ↓k_mno, k_0, k_1, k_2, k_3, k_4, k_5, k_6, k_7, k_8, k_9, k_10, k_11, k_12, k_13, k_14, k_15, k_16, k_17, k_18, k_19, k_20, k_21, k_22, k_23, k_24, k_25, k_26, k_27, k_28, k_29, k_30, k_31, k_32, k_36, k_48, k_50, k_57, k_58, k_59, k_64, k_97, k_99, k_100, k_101, k_102, k_104, k_105, k_107, k_108, k_109, k_110, k_111, k_114, k_115, k_116, k_119, k_122, k_128, k_255, k_500, k_1000, k_1023, k_10000, k_100000, nI_add, nI_mul, nI_sub, nI_sub0, nI_leI, nI_ltI, nI_eq, nM_lt, nM_le, nM_nlt, nM_nle, nM_ne, nM_ne', nM_eq, q_ii, q_ia, q_ij, q_it, q_aa, q_ai, q_aj, q_at, q_jj, q_ji, q_ja, q_jt, q_tt, q_ti, q_ta, q_tj, u_at, uL_at, Nat.zero_mul, Nat.mul_zero, Nat.one_mul, Nat.mul_one, Nat.zero_add, Nat.add_zero, nI_toInt, agN, asN, agLN, asLN, atvN, setvN, if_pos, if_neg]
    exact An_some hI
theorem or_0 (x : Int32) : x ||| nI 0 = x := by
  refine tb_ext fun j _ => ?_
  rw [tb_or, show nI 0 = 0 from rfl, tb_0, Bool.or_false]
theorem boundM_t {L : Nat → Nat} {ok : Nat → Bool} {rh : Nat → Nat → Bool} {n W : Nat} {s : SM} {r : Nat → Int32} (hr : LW n W r) (hn : n ≤ 8) (h25 : mI s 25 = nI n) (h24 : ∀ j, j < 3 * n → mA s 24 j = r j) (h : JJ L ok rh n s) : An (F_X12_boundBy s) (bsP (thP (bnd L ok rh n) r n)) := by
  unfold F_X12_boundBy
  simp (disch := omega) only [and_true, true_and, and_false, false_and, or_true, true_or, or_false, false_or, not_true_eq_false, not_false_eq_true, nm_at, Option.bind_some, if_true, if_false, ↓k_m1, ↓k_m2, ↓k_m3, ↓k_m5, ↓k_m9, ↓k_m10, ↓k_mno, k_0, k_1, k_2, k_3, k_4, k_5, k_6, k_7, k_8, k_9, k_10, k_11, k_12, k_13, k_14, k_15, k_16, k_17, k_18, k_19, k_20, k_21, k_22, k_23, k_24, k_25, k_26, k_27, k_28, k_29, k_30, k_31, k_32, k_36, k_48, k_50, k_57, k_58, k_59, k_64, k_97, k_99, k_100, k_101, k_102, k_104, k_105, k_107, k_108, k_109, k_110, k_111, k_114, k_115, k_116, k_119, k_122, k_128, k_255, k_500, k_1000, k_1023, k_10000, k_100000, nI_add, nI_mul, nI_sub, nI_sub0, nI_leI, nI_ltI, nI_eq, nM_lt, nM_le, nM_nlt, nM_nle, nM_ne, nM_ne', nM_eq, q_ii, q_ia, q_ij, q_it, q_aa, q_ai, q_aj, q_at, q_jj, q_ji, q_ja, q_jt, q_tt, q_ti, q_ta, q_tj, u_at, uL_at, Nat.zero_mul, Nat.mul_zero, Nat.one_mul, Nat.mul_one, Nat.zero_add, Nat.add_zero, nI_toInt, agN, asN, agLN, asLN, atvN, setvN, if_pos, if_neg]
  refine lp_up (fun q v (x : Int32) => F_X12_boundBy_b4 s q x v) n (fun m x => bsP (thP (bnd L ok rh n) r m) x) _ ?_ ?_ fu 0 (nI 0) (by omega) (by unfold fu; omega) (bs_0 fun j _ ⟨i, hi, _⟩ => by omega)
  · intro q m x hm hI hK
    obtain ⟨e1, e2⟩ := h.2 m hm
    have t2 := h24 (3 * m + 1) (by omega)
    obtain ⟨-, ⟨t, ht, et⟩, -⟩ := hr m hm
    show An (F_X12_boundBy_b4 s (q + 1) x (nI m)) _
    rw [F_X12_boundBy_b4, h25]
    unfold F_X12_boundBy_b38
    rcases e1 with e1 | e1
    · simp (disch := omega) only [e1, or_0, and_true, true_and, and_false, false_and, or_true, true_or, or_false, false_or, not_true_eq_false, not_false_eq_true, nm_at, Option.bind_some, if_true, if_false, ↓k_m1, ↓k_m2, ↓k_m3, ↓k_m5, ↓k_m9, ↓k_m10, ↓k_mno, k_0, k_1, k_2, k_3, k_4, k_5, k_6, k_7, k_8, k_9, k_10, k_11, k_12, k_13, k_14, k_15, k_16, k_17, k_18, k_19, k_20, k_21, k_22, k_23, k_24, k_25, k_26, k_27, k_28, k_29, k_30, k_31, k_32, k_36, k_48, k_50, k_57, k_58, k_59, k_64, k_97, k_99, k_100, k_101, k_102, k_104, k_105, k_107, k_108, k_109, k_110, k_111, k_114, k_115, k_116, k_119, k_122, k_128, k_255, k_500, k_1000, k_1023, k_10000, k_100000, nI_add, nI_mul, nI_sub, nI_sub0, nI_leI, nI_ltI, nI_eq, nM_lt, nM_le, nM_nlt, nM_nle, nM_ne, nM_ne', nM_eq, q_ii, q_ia, q_ij, q_it, q_aa, q_ai, q_aj, q_at, q_jj, q_ji, q_ja, q_jt, q_tt, q_ti, q_ta, q_tj, u_at, uL_at, Nat.zero_mul, Nat.mul_zero, Nat.one_mul, Nat.mul_one, Nat.zero_add, Nat.add_zero, nI_toInt, agN, asN, agLN, asLN, atvN, setvN, if_pos, if_neg]
      refine hK _ (th_no hI fun y => ?_)
      have := e2.mpr y
      rw [e1] at this
      exact absurd this (by decide)
    · simp (disch := omega) only [e1, t2, et, and_true, true_and, and_false, false_and, or_true, true_or, or_false, false_or, not_true_eq_false, not_false_eq_true, nm_at, Option.bind_some, if_true, if_false, ↓k_m1, ↓k_m2, ↓k_m3, ↓k_m5, ↓k_m9, ↓k_m10, ↓k_mno, k_0, k_1, k_2, k_3, k_4, k_5, k_6, k_7, k_8, k_9, k_10, k_11, k_12, k_13, k_14, k_15, k_16, k_17, k_18, k_19, k_20, k_21, k_22, k_23, k_24, k_25, k_26, k_27, k_28, k_29, k_30, k_31, k_32, k_36, k_48, k_50, k_57, k_58, k_59, k_64, k_97, k_99, k_100, k_101, k_102, k_104, k_105, k_107, k_108, k_109, k_110, k_111, k_114, k_115, k_116, k_119, k_122, k_128, k_255, k_500, k_1000, k_1023, k_10000, k_100000, nI_add, nI_mul, nI_sub, nI_sub0, nI_leI, nI_ltI, nI_eq, nM_lt, nM_le, nM_nlt, nM_nle, nM_ne, nM_ne', nM_eq, q_ii, q_ia, q_ij, q_it, q_aa, q_ai, q_aj, q_at, q_jj, q_ji, q_ja, q_jt, q_tt, q_ti, q_ta, q_tj, u_at, uL_at, Nat.zero_mul, Nat.mul_zero, Nat.one_mul, Nat.mul_one, Nat.zero_add, Nat.add_zero, nI_toInt, agN, asN, agLN, asLN, atvN, setvN, if_pos, if_neg]
      exact hK _ (th_up hI (e2.mp e1) ht et)
  · intro q x hI
    show An (F_X12_boundBy_b4 s (q + 1) x (nI n)) _
    rw [F_X12_boundBy_b4, h25]
    simp (disch := omega) only [and_true, true_and, and_false, false_and, or_true, true_or, or_false, false_or, not_true_eq_false, not_false_eq_true, nm_at, Option.bind_some, if_true, if_false, ↓k_m1, ↓k_m2, ↓k_m3, ↓k_m5, ↓k_m9, ↓k_m10, ↓k_mno, k_0, k_1, k_2, k_3, k_4, k_5, k_6, k_7, k_8, k_9, k_10, k_11, k_12, k_13, k_14, k_15, k_16, k_17, k_18, k_19, k_20, k_21, k_22, k_23, k_24, k_25, k_26, k_27, k_28, k_29, k_30, k_31, k_32, k_36, k_48, k_50, k_57, k_58, k_59, k_64, k_97, k_99, k_100, k_101, k_102, k_104, k_105, k_107, k_108, k_109, k_110, k_111, k_114, k_115, k_116, k_119, k_122, k_128, k_255, k_500, k_1000, k_1023, k_10000, k_100000, nI_add, nI_mul, nI_sub, nI_sub0, nI_leI, nI_ltI, nI_eq, nM_lt, nM_le, nM_nlt, nM_nle, nM_ne, nM_ne', nM_eq, q_ii, q_ia, q_ij, q_it, q_aa, q_ai, q_aj, q_at, q_jj, q_ji, q_ja, q_jt, q_tt, q_ti, q_ta, q_tj, u_at, uL_at, Nat.zero_mul, Nat.mul_zero, Nat.one_mul, Nat.mul_one, Nat.zero_add, Nat.add_zero, nI_toInt, agN, asN, agLN, asLN, atvN, setvN, if_pos, if_neg]
    exact An_some hI
/-! what lapses, what is left -/
def lapB (st an : Nat → Nat) (set : Int32) : Nat → Nat → Bool
  | 0 => fun _ => false
  | i + 1 => fun j => if j = i then (tb set i || (decide (st i = 2) && lapB st an set i (an i - 1))) else lapB st an set i j
def lap (st an : Nat → Nat) (set : Int32) (j : Nat) : Bool := lapB st an set (j + 1) j
theorem lapB_lt {st an : Nat → Nat} {set : Int32} : ∀ {i j : Nat}, j < i → lapB st an set i j = lap st an set j := by
  intro i
  induction i with
  | zero => intro j h; omega
  | succ i ih =>
    intro j h
    by_cases e : j = i
    · subst e; rfl
    · rw [lapB]; simp only [if_neg e]; exact ih (by omega)
theorem lap_eq {st an : Nat → Nat} {set : Int32} {i : Nat} (h : st i = 2 → an i - 1 < i) : lap st an set i = (tb set i || (decide (st i = 2) && lap st an set (an i - 1))) := by
  unfold lap
  rw [lapB]; simp only [if_true]
  by_cases c : st i = 2
  · rw [lapB_lt (h c)]; rfl
  · simp [c]
def leftP (st an : Nat → Nat) (set : Int32) (n j : Nat) : Prop := ∃ k, k < n ∧ st k = 2 ∧ lap st an set k = false ∧ (j = k ∨ an k = j + 1)
theorem rhX_t {L : Nat → Nat} {ok : Nat → Bool} {rh : Nat → Nat → Bool} {n m i : Nat} {z : S9} (h : VV L ok rh n m z) (hi : i < m) (h8 : i < 8) : F_X9_rhymed z (nI i) = some (if js L ok rh i = 2 then nI 1 else nI 0) ∧ (js L ok rh i = 2 → F_X9_anchor z (nI i) = some (nI (ja L ok rh i - 1))) := by
  obtain ⟨v1, v2⟩ := h.2.1 i hi
  have hle := js_le L ok rh i
  refine ⟨?_, fun c => ?_⟩
  · unfold F_X9_rhymed
    by_cases c : js L ok rh i = 2
    · simp (disch := omega) only [at_total, v1, c, and_true, true_and, and_false, false_and, or_true, true_or, or_false, false_or, not_true_eq_false, not_false_eq_true, nm_at, Option.bind_some, if_true, if_false, ↓k_m1, ↓k_m2, ↓k_m3, ↓k_m5, ↓k_m9, ↓k_m10, ↓k_mno, k_0, k_1, k_2, k_3, k_4, k_5, k_6, k_7, k_8, k_9, k_10, k_11, k_12, k_13, k_14, k_15, k_16, k_17, k_18, k_19, k_20, k_21, k_22, k_23, k_24, k_25, k_26, k_27, k_28, k_29, k_30, k_31, k_32, k_36, k_48, k_50, k_57, k_58, k_59, k_64, k_97, k_99, k_100, k_101, k_102, k_104, k_105, k_107, k_108, k_109, k_110, k_111, k_114, k_115, k_116, k_119, k_122, k_128, k_255, k_500, k_1000, k_1023, k_10000, k_100000, nI_add, nI_mul, nI_sub, nI_sub0, nI_leI, nI_ltI, nI_eq, nM_lt, nM_le, nM_nlt, nM_nle, nM_ne, nM_ne', nM_eq, q_ii, q_ia, q_ij, q_it, q_aa, q_ai, q_aj, q_at, q_jj, q_ji, q_ja, q_jt, q_tt, q_ti, q_ta, q_tj, u_at, uL_at, Nat.zero_mul, Nat.mul_zero, Nat.one_mul, Nat.mul_one, Nat.zero_add, Nat.add_zero, nI_toInt, agN, asN, agLN, asLN, atvN, setvN, if_pos, if_neg]
    · simp (disch := omega) only [at_total, v1, and_true, true_and, and_false, false_and, or_true, true_or, or_false, false_or, not_true_eq_false, not_false_eq_true, nm_at, Option.bind_some, if_true, if_false, ↓k_m1, ↓k_m2, ↓k_m3, ↓k_m5, ↓k_m9, ↓k_m10, ↓k_mno, k_0, k_1, k_2, k_3, k_4, k_5, k_6, k_7, k_8, k_9, k_10, k_11, k_12, k_13, k_14, k_15, k_16, k_17, k_18, k_19, k_20, k_21, k_22, k_23, k_24, k_25, k_26, k_27, k_28, k_29, k_30, k_31, k_32, k_36, k_48, k_50, k_57, k_58, k_59, k_64, k_97, k_99, k_100, k_101, k_102, k_104, k_105, k_107, k_108, k_109, k_110, k_111, k_114, k_115, k_116, k_119, k_122, k_128, k_255, k_500, k_1000, k_1023, k_10000, k_100000, nI_add, nI_mul, nI_sub, nI_sub0, nI_leI, nI_ltI, nI_eq, nM_lt, nM_le, nM_nlt, nM_nle, nM_ne, nM_ne', nM_eq, q_ii, q_ia, q_ij, q_it, q_aa, q_ai, q_aj, q_at, q_jj, q_ji, q_ja, q_jt, q_tt, q_ti, q_ta, q_tj, u_at, uL_at, Nat.zero_mul, Nat.mul_zero, Nat.one_mul, Nat.mul_one, Nat.zero_add, Nat.add_zero, nI_toInt, agN, asN, agLN, asLN, atvN, setvN, if_pos, if_neg]
  · unfold F_X9_anchor
    rw [if_pos c] at v2
    simp (disch := omega) only [at_total, v2, and_true, true_and, and_false, false_and, or_true, true_or, or_false, false_or, not_true_eq_false, not_false_eq_true, nm_at, Option.bind_some, if_true, if_false, ↓k_m1, ↓k_m2, ↓k_m3, ↓k_m5, ↓k_m9, ↓k_m10, ↓k_mno, k_0, k_1, k_2, k_3, k_4, k_5, k_6, k_7, k_8, k_9, k_10, k_11, k_12, k_13, k_14, k_15, k_16, k_17, k_18, k_19, k_20, k_21, k_22, k_23, k_24, k_25, k_26, k_27, k_28, k_29, k_30, k_31, k_32, k_36, k_48, k_50, k_57, k_58, k_59, k_64, k_97, k_99, k_100, k_101, k_102, k_104, k_105, k_107, k_108, k_109, k_110, k_111, k_114, k_115, k_116, k_119, k_122, k_128, k_255, k_500, k_1000, k_1023, k_10000, k_100000, nI_add, nI_mul, nI_sub, nI_sub0, nI_leI, nI_ltI, nI_eq, nM_lt, nM_le, nM_nlt, nM_nle, nM_ne, nM_ne', nM_eq, q_ii, q_ia, q_ij, q_it, q_aa, q_ai, q_aj, q_at, q_jj, q_ji, q_ja, q_jt, q_tt, q_ti, q_ta, q_tj, u_at, uL_at, Nat.zero_mul, Nat.mul_zero, Nat.one_mul, Nat.mul_one, Nat.zero_add, Nat.add_zero, nI_toInt, agN, asN, agLN, asLN, atvN, setvN, if_pos, if_neg]
theorem leftX_t {L : Nat → Nat} {ok : Nat → Bool} {rh : Nat → Nat → Bool} {n : Nat} {z : S9} (hn : n ≤ 8) (h : VV L ok rh n n z) (set : Int32) : An (F_X9_left z set) (bsP (leftP (js L ok rh) (ja L ok rh) set n)) := by
  unfold F_X9_left
  simp (disch := omega) only [and_true, true_and, and_false, false_and, or_true, true_or, or_false, false_or, not_true_eq_false, not_false_eq_true, nm_at, Option.bind_some, if_true, if_false, ↓k_m1, ↓k_m2, ↓k_m3, ↓k_m5, ↓k_m9, ↓k_m10, ↓k_mno, k_0, k_1, k_2, k_3, k_4, k_5, k_6, k_7, k_8, k_9, k_10, k_11, k_12, k_13, k_14, k_15, k_16, k_17, k_18, k_19, k_20, k_21, k_22, k_23, k_24, k_25, k_26, k_27, k_28, k_29, k_30, k_31, k_32, k_36, k_48, k_50, k_57, k_58, k_59, k_64, k_97, k_99, k_100, k_101, k_102, k_104, k_105, k_107, k_108, k_109, k_110, k_111, k_114, k_115, k_116, k_119, k_122, k_128, k_255, k_500, k_1000, k_1023, k_10000, k_100000, nI_add, nI_mul, nI_sub, nI_sub0, nI_leI, nI_ltI, nI_eq, nM_lt, nM_le, nM_nlt, nM_nle, nM_ne, nM_ne', nM_eq, q_ii, q_ia, q_ij, q_it, q_aa, q_ai, q_aj, q_at, q_jj, q_ji, q_ja, q_jt, q_tt, q_ti, q_ta, q_tj, u_at, uL_at, Nat.zero_mul, Nat.mul_zero, Nat.one_mul, Nat.mul_one, Nat.zero_add, Nat.add_zero, nI_toInt, agN, asN, agLN, asLN, atvN, setvN, if_pos, if_neg]
  refine lp_up (fun q v (x : Int32 × Int32) => F_X9_left_b7 z set q x.1 x.2 v) n (fun m x => bsP (fun j => j < m ∧ lap (js L ok rh) (ja L ok rh) set j = true) x.1 ∧ bsP (leftP (js L ok rh) (ja L ok rh) set m) x.2) _ ?_ ?_ fu 0 (nI 0, nI 0) (by omega) (by unfold fu; omega) ⟨bs_0 fun j _ y => by omega, bs_0 fun j _ ⟨k, hk, _⟩ => by omega⟩
  · intro q m ⟨x, y⟩ hm ⟨hx, hy⟩ hK
    obtain ⟨r1, r2⟩ := rhX_t h hm (by omega)
    have ha : js L ok rh m = 2 → ja L ok rh m - 1 < m := fun c => by
      obtain ⟨a, e1, e2, -⟩ := js_ja c
      omega
    have le := lap_eq (set := set) ha
    have yes : lap (js L ok rh) (ja L ok rh) set m = true → An (F_X9_left_b7 z set q (x ||| (1 <<< (nI m &&& nI 31))) y (nI (m + 1))) (bsP (leftP (js L ok rh) (ja L ok rh) set n)) := by
      intro c
      refine hK (_, _) ⟨?_, ?_⟩
      · intro j hj
        show tb (x ||| (1 <<< (nI m &&& 31))) j = true ↔ _
        rw [tb_or, tb_nI (by omega) j hj]
        simp only [Bool.or_eq_true, decide_eq_true_eq]
        rw [hx j hj]
        constructor
        · rintro (y | y)
          · exact ⟨by omega, y.2⟩
          · exact ⟨by omega, by rw [y]; exact c⟩
        · rintro ⟨y1, y2⟩
          by_cases k : j = m
          · exact Or.inr k
          · exact Or.inl ⟨by omega, y2⟩
      · intro j hj
        show tb y j = true ↔ _
        rw [hy j hj]
        constructor
        · rintro ⟨k, k1, k2⟩; exact ⟨k, by omega, k2⟩
        · rintro ⟨k, k1, k2, k3, k4⟩
          by_cases e : k = m
          · rw [e, c] at k3; cases k3
          · exact ⟨k, by omega, k2, k3, k4⟩
    have stay : lap (js L ok rh) (ja L ok rh) set m = false → bsP (fun j => j < m + 1 ∧ lap (js L ok rh) (ja L ok rh) set j = true) x := by
      intro c j hj
      rw [hx j hj]
      constructor
      · rintro ⟨y1, y2⟩; exact ⟨by omega, y2⟩
      · rintro ⟨y1, y2⟩
        by_cases k : j = m
        · rw [k, c] at y2; cases y2
        · exact ⟨by omega, y2⟩
    show An (F_X9_left_b7 z set (q + 1) x y (nI m)) _
    rw [F_X9_left_b7, h.1]
    unfold F_X9_left_b42 F_X9_left_b43 F_X9_left_b59 F_X9_left_b94
    by_cases c2 : js L ok rh m = 2
    · obtain ⟨a, ea, ha2, -⟩ := js_ja c2
      have r2' := r2 c2
      rw [if_pos c2] at r1
      rw [ea] at r2'
      rw [ea] at le
      rw [show a + 1 - 1 = a from by omega] at le r2'
      have hxa := hx a (by omega)
      cases cs : tb set m
      · cases cl : tb x a
        · have cl2 : lap (js L ok rh) (ja L ok rh) set a = false := by
            cases d : lap (js L ok rh) (ja L ok rh) set a
            · rfl
            · exact absurd (hxa.mpr ⟨ha2, d⟩) (by rw [cl]; simp)
          have lm : lap (js L ok rh) (ja L ok rh) set m = false := by rw [le, cs, cl2]; simp
          simp (disch := omega) only [r1, r2', tb_nIi, cs, cl, and_true, true_and, and_false, false_and, or_true, true_or, or_false, false_or, not_true_eq_false, not_false_eq_true, nm_at, Option.bind_some, if_true, if_false, ↓k_m1, ↓k_m2, ↓k_m3, ↓k_m5, ↓k_m9, ↓k_m10, ↓k_mno, k_0, k_1, k_2, k_3, k_4, k_5, k_6, k_7, k_8, k_9, k_10, k_11, k_12, k_13, k_14, k_15, k_16, k_17, k_18, k_19, k_20, k_21, k_22, k_23, k_24, k_25, k_26, k_27, k_28, k_29, k_30, k_31, k_32, k_36, k_48, k_50, k_57, k_58, k_59, k_64, k_97, k_99, k_100, k_101, k_102, k_104, k_105, k_107, k_108, k_109, k_110, k_111, k_114, k_115, k_116, k_119, k_122, k_128, k_255, k_500, k_1000, k_1023, k_10000, k_100000, nI_add, nI_mul, nI_sub, nI_sub0, nI_leI, nI_ltI, nI_eq, nM_lt, nM_le, nM_nlt, nM_nle, nM_ne, nM_ne', nM_eq, q_ii, q_ia, q_ij, q_it, q_aa, q_ai, q_aj, q_at, q_jj, q_ji, q_ja, q_jt, q_tt, q_ti, q_ta, q_tj, u_at, uL_at, Nat.zero_mul, Nat.mul_zero, Nat.one_mul, Nat.mul_one, Nat.zero_add, Nat.add_zero, nI_toInt, agN, asN, agLN, asLN, atvN, setvN, if_pos, if_neg]
          refine hK (_, _) ⟨stay lm, ?_⟩
          intro j hj
          show tb (y ||| (1 <<< (nI m &&& 31) ||| 1 <<< (nI a &&& 31))) j = true ↔ _
          rw [tb_or, tb_or, tb_nI (by omega) j hj, tb_nI (by omega) j hj]
          simp only [Bool.or_eq_true, decide_eq_true_eq]
          rw [hy j hj]
          constructor
          · rintro (⟨k, k1, k2⟩ | k1 | k1)
            · exact ⟨k, by omega, k2⟩
            · exact ⟨m, by omega, c2, lm, Or.inl k1⟩
            · exact ⟨m, by omega, c2, lm, Or.inr (by omega)⟩
          · rintro ⟨k, k1, k2, k3, k4⟩
            by_cases e : k = m
            · rw [e] at k4
              rcases k4 with k4 | k4
              · exact Or.inr (Or.inl k4)
              · exact Or.inr (Or.inr (by omega))
            · exact Or.inl ⟨k, by omega, k2, k3, k4⟩
        · have cl2 := (hxa.mp cl).2
          have lm : lap (js L ok rh) (ja L ok rh) set m = true := by rw [le, cl2]; simp [c2]
          simp (disch := omega) only [r1, r2', tb_nIi, cs, cl, and_true, true_and, and_false, false_and, or_true, true_or, or_false, false_or, not_true_eq_false, not_false_eq_true, nm_at, Option.bind_some, if_true, if_false, ↓k_m1, ↓k_m2, ↓k_m3, ↓k_m5, ↓k_m9, ↓k_m10, ↓k_mno, k_0, k_1, k_2, k_3, k_4, k_5, k_6, k_7, k_8, k_9, k_10, k_11, k_12, k_13, k_14, k_15, k_16, k_17, k_18, k_19, k_20, k_21, k_22, k_23, k_24, k_25, k_26, k_27, k_28, k_29, k_30, k_31, k_32, k_36, k_48, k_50, k_57, k_58, k_59, k_64, k_97, k_99, k_100, k_101, k_102, k_104, k_105, k_107, k_108, k_109, k_110, k_111, k_114, k_115, k_116, k_119, k_122, k_128, k_255, k_500, k_1000, k_1023, k_10000, k_100000, nI_add, nI_mul, nI_sub, nI_sub0, nI_leI, nI_ltI, nI_eq, nM_lt, nM_le, nM_nlt, nM_nle, nM_ne, nM_ne', nM_eq, q_ii, q_ia, q_ij, q_it, q_aa, q_ai, q_aj, q_at, q_jj, q_ji, q_ja, q_jt, q_tt, q_ti, q_ta, q_tj, u_at, uL_at, Nat.zero_mul, Nat.mul_zero, Nat.one_mul, Nat.mul_one, Nat.zero_add, Nat.add_zero, nI_toInt, agN, asN, agLN, asLN, atvN, setvN, if_pos, if_neg]
          exact yes lm
      · have lm : lap (js L ok rh) (ja L ok rh) set m = true := by rw [le, cs]; simp
        cases cl : tb x a
        · simp (disch := omega) only [r1, r2', tb_nIi, cs, cl, and_true, true_and, and_false, false_and, or_true, true_or, or_false, false_or, not_true_eq_false, not_false_eq_true, nm_at, Option.bind_some, if_true, if_false, ↓k_m1, ↓k_m2, ↓k_m3, ↓k_m5, ↓k_m9, ↓k_m10, ↓k_mno, k_0, k_1, k_2, k_3, k_4, k_5, k_6, k_7, k_8, k_9, k_10, k_11, k_12, k_13, k_14, k_15, k_16, k_17, k_18, k_19, k_20, k_21, k_22, k_23, k_24, k_25, k_26, k_27, k_28, k_29, k_30, k_31, k_32, k_36, k_48, k_50, k_57, k_58, k_59, k_64, k_97, k_99, k_100, k_101, k_102, k_104, k_105, k_107, k_108, k_109, k_110, k_111, k_114, k_115, k_116, k_119, k_122, k_128, k_255, k_500, k_1000, k_1023, k_10000, k_100000, nI_add, nI_mul, nI_sub, nI_sub0, nI_leI, nI_ltI, nI_eq, nM_lt, nM_le, nM_nlt, nM_nle, nM_ne, nM_ne', nM_eq, q_ii, q_ia, q_ij, q_it, q_aa, q_ai, q_aj, q_at, q_jj, q_ji, q_ja, q_jt, q_tt, q_ti, q_ta, q_tj, u_at, uL_at, Nat.zero_mul, Nat.mul_zero, Nat.one_mul, Nat.mul_one, Nat.zero_add, Nat.add_zero, nI_toInt, agN, asN, agLN, asLN, atvN, setvN, if_pos, if_neg]
          exact yes lm
        · simp (disch := omega) only [r1, r2', tb_nIi, cs, cl, and_true, true_and, and_false, false_and, or_true, true_or, or_false, false_or, not_true_eq_false, not_false_eq_true, nm_at, Option.bind_some, if_true, if_false, ↓k_m1, ↓k_m2, ↓k_m3, ↓k_m5, ↓k_m9, ↓k_m10, ↓k_mno, k_0, k_1, k_2, k_3, k_4, k_5, k_6, k_7, k_8, k_9, k_10, k_11, k_12, k_13, k_14, k_15, k_16, k_17, k_18, k_19, k_20, k_21, k_22, k_23, k_24, k_25, k_26, k_27, k_28, k_29, k_30, k_31, k_32, k_36, k_48, k_50, k_57, k_58, k_59, k_64, k_97, k_99, k_100, k_101, k_102, k_104, k_105, k_107, k_108, k_109, k_110, k_111, k_114, k_115, k_116, k_119, k_122, k_128, k_255, k_500, k_1000, k_1023, k_10000, k_100000, nI_add, nI_mul, nI_sub, nI_sub0, nI_leI, nI_ltI, nI_eq, nM_lt, nM_le, nM_nlt, nM_nle, nM_ne, nM_ne', nM_eq, q_ii, q_ia, q_ij, q_it, q_aa, q_ai, q_aj, q_at, q_jj, q_ji, q_ja, q_jt, q_tt, q_ti, q_ta, q_tj, u_at, uL_at, Nat.zero_mul, Nat.mul_zero, Nat.one_mul, Nat.mul_one, Nat.zero_add, Nat.add_zero, nI_toInt, agN, asN, agLN, asLN, atvN, setvN, if_pos, if_neg]
          exact yes lm
    · rw [if_neg c2] at r1
      cases cs : tb set m
      · have lm : lap (js L ok rh) (ja L ok rh) set m = false := by rw [le, cs]; simp [c2]
        simp (disch := omega) only [r1, tb_nIi, cs, and_true, true_and, and_false, false_and, or_true, true_or, or_false, false_or, not_true_eq_false, not_false_eq_true, nm_at, Option.bind_some, if_true, if_false, ↓k_m1, ↓k_m2, ↓k_m3, ↓k_m5, ↓k_m9, ↓k_m10, ↓k_mno, k_0, k_1, k_2, k_3, k_4, k_5, k_6, k_7, k_8, k_9, k_10, k_11, k_12, k_13, k_14, k_15, k_16, k_17, k_18, k_19, k_20, k_21, k_22, k_23, k_24, k_25, k_26, k_27, k_28, k_29, k_30, k_31, k_32, k_36, k_48, k_50, k_57, k_58, k_59, k_64, k_97, k_99, k_100, k_101, k_102, k_104, k_105, k_107, k_108, k_109, k_110, k_111, k_114, k_115, k_116, k_119, k_122, k_128, k_255, k_500, k_1000, k_1023, k_10000, k_100000, nI_add, nI_mul, nI_sub, nI_sub0, nI_leI, nI_ltI, nI_eq, nM_lt, nM_le, nM_nlt, nM_nle, nM_ne, nM_ne', nM_eq, q_ii, q_ia, q_ij, q_it, q_aa, q_ai, q_aj, q_at, q_jj, q_ji, q_ja, q_jt, q_tt, q_ti, q_ta, q_tj, u_at, uL_at, Nat.zero_mul, Nat.mul_zero, Nat.one_mul, Nat.mul_one, Nat.zero_add, Nat.add_zero, nI_toInt, agN, asN, agLN, asLN, atvN, setvN, if_pos, if_neg]
        refine hK (_, _) ⟨stay lm, ?_⟩
        intro j hj
        show tb y j = true ↔ _
        rw [hy j hj]
        constructor
        · rintro ⟨k, k1, k2⟩; exact ⟨k, by omega, k2⟩
        · rintro ⟨k, k1, k2, k3⟩
          by_cases e : k = m
          · rw [e] at k2; exact absurd k2 c2
          · exact ⟨k, by omega, k2, k3⟩
      · have lm : lap (js L ok rh) (ja L ok rh) set m = true := by rw [le, cs]; simp
        simp (disch := omega) only [r1, tb_nIi, cs, and_true, true_and, and_false, false_and, or_true, true_or, or_false, false_or, not_true_eq_false, not_false_eq_true, nm_at, Option.bind_some, if_true, if_false, ↓k_m1, ↓k_m2, ↓k_m3, ↓k_m5, ↓k_m9, ↓k_m10, ↓k_mno, k_0, k_1, k_2, k_3, k_4, k_5, k_6, k_7, k_8, k_9, k_10, k_11, k_12, k_13, k_14, k_15, k_16, k_17, k_18, k_19, k_20, k_21, k_22, k_23, k_24, k_25, k_26, k_27, k_28, k_29, k_30, k_31, k_32, k_36, k_48, k_50, k_57, k_58, k_59, k_64, k_97, k_99, k_100, k_101, k_102, k_104, k_105, k_107, k_108, k_109, k_110, k_111, k_114, k_115, k_116, k_119, k_122, k_128, k_255, k_500, k_1000, k_1023, k_10000, k_100000, nI_add, nI_mul, nI_sub, nI_sub0, nI_leI, nI_ltI, nI_eq, nM_lt, nM_le, nM_nlt, nM_nle, nM_ne, nM_ne', nM_eq, q_ii, q_ia, q_ij, q_it, q_aa, q_ai, q_aj, q_at, q_jj, q_ji, q_ja, q_jt, q_tt, q_ti, q_ta, q_tj, u_at, uL_at, Nat.zero_mul, Nat.mul_zero, Nat.one_mul, Nat.mul_one, Nat.zero_add, Nat.add_zero, nI_toInt, agN, asN, agLN, asLN, atvN, setvN, if_pos, if_neg]
        exact yes lm
  · intro q ⟨x, y⟩ ⟨hx, hy⟩
    show An (F_X9_left_b7 z set (q + 1) x y (nI n)) _
    rw [F_X9_left_b7, h.1]
    simp (disch := omega) only [and_true, true_and, and_false, false_and, or_true, true_or, or_false, false_or, not_true_eq_false, not_false_eq_true, nm_at, Option.bind_some, if_true, if_false, ↓k_m1, ↓k_m2, ↓k_m3, ↓k_m5, ↓k_m9, ↓k_m10, ↓k_mno, k_0, k_1, k_2, k_3, k_4, k_5, k_6, k_7, k_8, k_9, k_10, k_11, k_12, k_13, k_14, k_15, k_16, k_17, k_18, k_19, k_20, k_21, k_22, k_23, k_24, k_25, k_26, k_27, k_28, k_29, k_30, k_31, k_32, k_36, k_48, k_50, k_57, k_58, k_59, k_64, k_97, k_99, k_100, k_101, k_102, k_104, k_105, k_107, k_108, k_109, k_110, k_111, k_114, k_115, k_116, k_119, k_122, k_128, k_255, k_500, k_1000, k_1023, k_10000, k_100000, nI_add, nI_mul, nI_sub, nI_sub0, nI_leI, nI_ltI, nI_eq, nM_lt, nM_le, nM_nlt, nM_nle, nM_ne, nM_ne', nM_eq, q_ii, q_ia, q_ij, q_it, q_aa, q_ai, q_aj, q_at, q_jj, q_ji, q_ja, q_jt, q_tt, q_ti, q_ta, q_tj, u_at, uL_at, Nat.zero_mul, Nat.mul_zero, Nat.one_mul, Nat.mul_one, Nat.zero_add, Nat.add_zero, nI_toInt, agN, asN, agLN, asLN, atvN, setvN, if_pos, if_neg]
    exact An_some hy
