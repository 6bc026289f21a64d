/-! ===== calls that change the paper ===== -/
/-- two rows that tell the same lines -/
theorem LW.cg {n W : Nat} {r r2 : Nat → Int32} (h : LW n W r) (e : ∀ j, j < 3 * n → r2 j = r j) : LW n W r2 := by
  intro i hi
  rw [e (3 * i) (by omega), e (3 * i + 1) (by omega), e (3 * i + 2) (by omega)]
  exact h i hi
theorem PP.cg {s : S4} {n : Nat} {p q : Nat → Int32 × Int32 × Int32} (h : PP s n p) (e : ∀ j, j < n → p j = q j) : PP s n q := ⟨h.1, fun j hj => (h.2 j hj).trans (e j hj)⟩
theorem ln3_cg {r r2 : Nat → Int32} {i j : Nat} (h0 : r2 (3 * i) = r (3 * j)) (h1 : r2 (3 * i + 1) = r (3 * j + 1)) (h2 : r2 (3 * i + 2) = r (3 * j + 2)) : ln3 r2 i = ln3 r j := by
  unfold ln3; rw [h0, h1, h2]
theorem LR.cg {s : S4} {n M W : Nat} {r r2 : Nat → Int32} (h : LR s n M W r) (e : ∀ j, j < 3 * n → r2 j = r j) : LR s n M W r2 :=
  ⟨h.1, h.2.1, h.2.2.1.cg fun j hj => (ln3_cg (e _ (by omega)) (e _ (by omega)) (e _ (by omega))).symm, h.2.2.2.cg e⟩
/-- lines put in, taken out: the row -/
def insR (r : Nat → Int32) (p : Nat) (a b c : Int32) : Nat → Int32 := fun j => if j < 3 * p then r j else if j = 3 * p then a else if j = 3 * p + 1 then b else if j = 3 * p + 2 then c else r (j - 3)
def remR (r : Nat → Int32) (p : Nat) : Nat → Int32 := fun j => if j < 3 * p then r j else r (j + 3)
theorem insR_ln (r : Nat → Int32) (p : Nat) (a b c : Int32) (i : Nat) : ln3 (insR r p a b c) i = insP (ln3 r) p (a, b, c) i := by
  unfold ln3 insR insP
  by_cases h1 : i < p
  · simp (disch := omega) only [nm_at, Option.bind_some, if_true, if_false, ↓k_m1, ↓k_m2, ↓k_m3, ↓k_m5, ↓k_m9, ↓k_m10, ↓k_mno, k_0, k_1, k_2, k_3, k_4, k_5, k_6, k_7, k_8, k_9, k_10, k_11, k_12, k_13, k_14, k_15, k_16, k_17, k_18, k_19, k_20, k_21, k_22, k_23, k_24, k_25, k_26, k_27, k_28, k_29, k_30, k_31, k_32, k_36, k_48, k_50, k_57, k_58, k_59, k_64, k_97, k_99, k_100, k_101, k_102, k_104, k_105, k_107, k_108, k_109, k_110, k_111, k_114, k_115, k_116, k_119, k_122, k_128, k_255, k_500, k_1000, k_1023, k_10000, k_100000, nI_add, nI_mul, nI_sub, nI_sub0, nI_leI, nI_ltI, nI_eq, nM_lt, nM_le, nM_nlt, nM_nle, nM_ne, nM_ne', nM_eq, q_ii, q_ia, q_ij, q_it, q_aa, q_ai, q_aj, q_at, q_jj, q_ji, q_ja, q_jt, q_tt, q_ti, q_ta, q_tj, u_at, uL_at, Nat.zero_mul, Nat.mul_zero, Nat.one_mul, Nat.mul_one, Nat.zero_add, Nat.add_zero, nI_toInt, agN, asN, agLN, asLN, atvN, setvN, if_pos, if_neg]
  · by_cases h2 : i = p
    · simp (disch := omega) only [h2, nm_at, Option.bind_some, if_true, if_false, ↓k_m1, ↓k_m2, ↓k_m3, ↓k_m5, ↓k_m9, ↓k_m10, ↓k_mno, k_0, k_1, k_2, k_3, k_4, k_5, k_6, k_7, k_8, k_9, k_10, k_11, k_12, k_13, k_14, k_15, k_16, k_17, k_18, k_19, k_20, k_21, k_22, k_23, k_24, k_25, k_26, k_27, k_28, k_29, k_30, k_31, k_32, k_36, k_48, k_50, k_57, k_58, k_59, k_64, k_97, k_99, k_100, k_101, k_102, k_104, k_105, k_107, k_108, k_109, k_110, k_111, k_114, k_115, k_116, k_119, k_122, k_128, k_255, k_500, k_1000, k_1023, k_10000, k_100000, nI_add, nI_mul, nI_sub, nI_sub0, nI_leI, nI_ltI, nI_eq, nM_lt, nM_le, nM_nlt, nM_nle, nM_ne, nM_ne', nM_eq, q_ii, q_ia, q_ij, q_it, q_aa, q_ai, q_aj, q_at, q_jj, q_ji, q_ja, q_jt, q_tt, q_ti, q_ta, q_tj, u_at, uL_at, Nat.zero_mul, Nat.mul_zero, Nat.one_mul, Nat.mul_one, Nat.zero_add, Nat.add_zero, nI_toInt, agN, asN, agLN, asLN, atvN, setvN, if_pos, if_neg]
    · simp (disch := omega) only [nm_at, Option.bind_some, if_true, if_false, ↓k_m1, ↓k_m2, ↓k_m3, ↓k_m5, ↓k_m9, ↓k_m10, ↓k_mno, k_0, k_1, k_2, k_3, k_4, k_5, k_6, k_7, k_8, k_9, k_10, k_11, k_12, k_13, k_14, k_15, k_16, k_17, k_18, k_19, k_20, k_21, k_22, k_23, k_24, k_25, k_26, k_27, k_28, k_29, k_30, k_31, k_32, k_36, k_48, k_50, k_57, k_58, k_59, k_64, k_97, k_99, k_100, k_101, k_102, k_104, k_105, k_107, k_108, k_109, k_110, k_111, k_114, k_115, k_116, k_119, k_122, k_128, k_255, k_500, k_1000, k_1023, k_10000, k_100000, nI_add, nI_mul, nI_sub, nI_sub0, nI_leI, nI_ltI, nI_eq, nM_lt, nM_le, nM_nlt, nM_nle, nM_ne, nM_ne', nM_eq, q_ii, q_ia, q_ij, q_it, q_aa, q_ai, q_aj, q_at, q_jj, q_ji, q_ja, q_jt, q_tt, q_ti, q_ta, q_tj, u_at, uL_at, Nat.zero_mul, Nat.mul_zero, Nat.one_mul, Nat.mul_one, Nat.zero_add, Nat.add_zero, nI_toInt, agN, asN, agLN, asLN, atvN, setvN, if_pos, if_neg]
      rw [show 3 * i - 3 = 3 * (i - 1) from by omega, show 3 * i + 1 - 3 = 3 * (i - 1) + 1 from by omega, show 3 * i + 2 - 3 = 3 * (i - 1) + 2 from by omega]
theorem remR_ln (r : Nat → Int32) (p : Nat) (i : Nat) : ln3 (remR r p) i = remP (ln3 r) p i := by
  unfold ln3 remR remP
  by_cases h1 : i < p
  · simp (disch := omega) only [nm_at, Option.bind_some, if_true, if_false, ↓k_m1, ↓k_m2, ↓k_m3, ↓k_m5, ↓k_m9, ↓k_m10, ↓k_mno, k_0, k_1, k_2, k_3, k_4, k_5, k_6, k_7, k_8, k_9, k_10, k_11, k_12, k_13, k_14, k_15, k_16, k_17, k_18, k_19, k_20, k_21, k_22, k_23, k_24, k_25, k_26, k_27, k_28, k_29, k_30, k_31, k_32, k_36, k_48, k_50, k_57, k_58, k_59, k_64, k_97, k_99, k_100, k_101, k_102, k_104, k_105, k_107, k_108, k_109, k_110, k_111, k_114, k_115, k_116, k_119, k_122, k_128, k_255, k_500, k_1000, k_1023, k_10000, k_100000, nI_add, nI_mul, nI_sub, nI_sub0, nI_leI, nI_ltI, nI_eq, nM_lt, nM_le, nM_nlt, nM_nle, nM_ne, nM_ne', nM_eq, q_ii, q_ia, q_ij, q_it, q_aa, q_ai, q_aj, q_at, q_jj, q_ji, q_ja, q_jt, q_tt, q_ti, q_ta, q_tj, u_at, uL_at, Nat.zero_mul, Nat.mul_zero, Nat.one_mul, Nat.mul_one, Nat.zero_add, Nat.add_zero, nI_toInt, agN, asN, agLN, asLN, atvN, setvN, if_pos, if_neg]
  · simp (disch := omega) only [nm_at, Option.bind_some, if_true, if_false, ↓k_m1, ↓k_m2, ↓k_m3, ↓k_m5, ↓k_m9, ↓k_m10, ↓k_mno, k_0, k_1, k_2, k_3, k_4, k_5, k_6, k_7, k_8, k_9, k_10, k_11, k_12, k_13, k_14, k_15, k_16, k_17, k_18, k_19, k_20, k_21, k_22, k_23, k_24, k_25, k_26, k_27, k_28, k_29, k_30, k_31, k_32, k_36, k_48, k_50, k_57, k_58, k_59, k_64, k_97, k_99, k_100, k_101, k_102, k_104, k_105, k_107, k_108, k_109, k_110, k_111, k_114, k_115, k_116, k_119, k_122, k_128, k_255, k_500, k_1000, k_1023, k_10000, k_100000, nI_add, nI_mul, nI_sub, nI_sub0, nI_leI, nI_ltI, nI_eq, nM_lt, nM_le, nM_nlt, nM_nle, nM_ne, nM_ne', nM_eq, q_ii, q_ia, q_ij, q_it, q_aa, q_ai, q_aj, q_at, q_jj, q_ji, q_ja, q_jt, q_tt, q_ti, q_ta, q_tj, u_at, uL_at, Nat.zero_mul, Nat.mul_zero, Nat.one_mul, Nat.mul_one, Nat.zero_add, Nat.add_zero, nI_toInt, agN, asN, agLN, asLN, atvN, setvN, if_pos, if_neg]
    rw [show 3 * i + 3 = 3 * (i + 1) from by omega, show 3 * i + 1 + 3 = 3 * (i + 1) + 1 from by omega, show 3 * i + 2 + 3 = 3 * (i + 1) + 2 from by omega]
theorem LW.ins {n W : Nat} {r : Nat → Int32} (h : LW n W r) {p : Nat} (hp : p ≤ n) {a b c : Int32} (ha : Lb a W) (hb : Lb b 10) (hc : Lb c 17) : LW (n + 1) W (insR r p a b c) := by
  intro i hi
  have e := insR_ln r p a b c i
  unfold ln3 insP at e
  by_cases h1 : i < p
  · rw [if_pos h1] at e
    simp only [Prod.mk.injEq] at e; rw [e.1, e.2.1, e.2.2]
    exact h i (by omega)
  · rw [if_neg h1] at e
    by_cases h2 : i = p
    · rw [if_pos h2] at e
      simp only [Prod.mk.injEq] at e; rw [e.1, e.2.1, e.2.2]
      exact ⟨ha, hb, hc⟩
    · rw [if_neg h2] at e
      simp only [Prod.mk.injEq] at e; rw [e.1, e.2.1, e.2.2]
      exact h (i - 1) (by omega)
theorem LW.rem {n W : Nat} {r : Nat → Int32} (h : LW (n + 1) W r) {p : Nat} : LW n W (remR r p) := by
  intro i hi
  have e := remR_ln r p i
  unfold ln3 remP at e
  by_cases h1 : i < p
  · rw [if_pos h1] at e
    simp only [Prod.mk.injEq] at e; rw [e.1, e.2.1, e.2.2]
    exact h i (by omega)
  · rw [if_neg h1] at e
    simp only [Prod.mk.injEq] at e; rw [e.1, e.2.1, e.2.2]
    exact h (i + 1) (by omega)
theorem ins_tM (a b c : Int32) {s : S4} {k n M : Nat} (hk : k ≤ n) (hn : n < M) (hM : M ≤ 8) (hm : s4_most s = nI M) {p : Nat → Int32 × Int32 × Int32} (h : PP s n p) : ∃ s', F_X4_insert s (nI k) a b c = some s' ∧ PP s' (n + 1) (insP p k (a, b, c)) ∧ s4_most s' = nI M := by
  unfold F_X4_insert F_X4_isFull
  simp (disch := omega) only [h.1, hm, nm_at, Option.bind_some, if_true, if_false, ↓k_m1, ↓k_m2, ↓k_m3, ↓k_m5, ↓k_m9, ↓k_m10, ↓k_mno, k_0, k_1, k_2, k_3, k_4, k_5, k_6, k_7, k_8, k_9, k_10, k_11, k_12, k_13, k_14, k_15, k_16, k_17, k_18, k_19, k_20, k_21, k_22, k_23, k_24, k_25, k_26, k_27, k_28, k_29, k_30, k_31, k_32, k_36, k_48, k_50, k_57, k_58, k_59, k_64, k_97, k_99, k_100, k_101, k_102, k_104, k_105, k_107, k_108, k_109, k_110, k_111, k_114, k_115, k_116, k_119, k_122, k_128, k_255, k_500, k_1000, k_1023, k_10000, k_100000, nI_add, nI_mul, nI_sub, nI_sub0, nI_leI, nI_ltI, nI_eq, nM_lt, nM_le, nM_nlt, nM_nle, nM_ne, nM_ne', nM_eq, q_ii, q_ia, q_ij, q_it, q_aa, q_ai, q_aj, q_at, q_jj, q_ji, q_ja, q_jt, q_tt, q_ti, q_ta, q_tj, u_at, uL_at, Nat.zero_mul, Nat.mul_zero, Nat.one_mul, Nat.mul_one, Nat.zero_add, Nat.add_zero, nI_toInt, agN, asN, agLN, asLN, atvN, setvN, if_pos, if_neg]
  exact ins_loop a b c (by omega) p (nI M) fu n s hk (Nat.le_refl n) (by unfold fu; omega) h.1 hm (fun j hj => h.2 j hj) (fun j h1 h2 => by omega)
theorem LR.ins {s : S4} {n M W : Nat} {r : Nat → Int32} (h : LR s n M W r) (hM : M ≤ 8) (hn : n < M) {p : Nat} (hp : p ≤ n) {a b c : Int32} (ha : Lb a W) (hb : Lb b 10) (hc : Lb c 17) : ∃ s', F_X4_insert s (nI p) a b c = some s' ∧ LR s' (n + 1) M W (insR r p a b c) := by
  obtain ⟨s', h1, h2, h3⟩ := ins_tM a b c hp hn hM h.2.1 h.2.2.1
  exact ⟨s', h1, by omega, h3, h2.cg fun j hj => (insR_ln r p a b c j).symm, h.2.2.2.ins hp ha hb hc⟩
theorem LR.rem {s : S4} {n W : Nat} {r : Nat → Int32} (h : LR s (n + 1) 8 W r) {p : Nat} (hp : p ≤ n) : ∃ s', F_X4_remove s (nI p) = some s' ∧ LR s' n 8 W (remR r p) := by
  obtain ⟨h1, h2, h3, h4⟩ := h
  obtain ⟨s', e1, e2, e3⟩ := rem_t hp (by omega) h3
  exact ⟨s', e1, by omega, e3.trans h2, e2.cg fun j hj => (remR_ln r p j).symm, h4.rem⟩
theorem LR.copy {a s : S4} {n M N W : Nat} {r : Nat → Int32} (h : LR a n N W r) (hM : M ≤ 8) (hn : n ≤ M) (hm : s4_most s = nI M) : ∃ s', F_X4_copyFrom a s = some s' ∧ LR s' n M W r := by
  obtain ⟨s', e1, e2, e3⟩ := copy_t hM hn hm h.2.2.1
  exact ⟨s', e1, hn, e3, e2, h.2.2.2⟩
/-! the reference's rows -/
theorem put_lp {P p : Nat} (hp : p ≤ P) (hP : P < 8) (a b c : Int32) (r0 : Nat → Int32) (h0 : r0 0 = nI P) : ∀ f m s, 3 * p ≤ m → m ≤ 3 * P → m - 3 * p < f → (∀ j, j ≤ m → mA s 21 j = r0 j) → (∀ j, m + 3 < j → j ≤ 3 * P + 3 → mA s 21 j = r0 (j - 3)) → An (F_X12_put_b74 (nI p) a b c f (nI m) s) (fun q => q.1 = nI (P + 1) ∧ Fr [] [21] [] s q.2 ∧ ∀ j, j ≤ 3 * P + 3 → mA q.2 21 j = if j = 0 then nI (P + 1) else insR (fun k => r0 (1 + k)) p a b c (j - 1)) := by
  intro f
  induction f with
  | zero => intro m s _ _ h; omega
  | succ f ih =>
    intro m s h1 h2 h3 h4 h5
    have e0 : mA s 21 0 = nI P := (h4 0 (by omega)).trans h0
    rw [F_X12_put_b74]
    by_cases h : m ≤ 3 * p
    · obtain rfl : m = 3 * p := by omega
      simp (disch := omega) only [e0, nm_at, Option.bind_some, if_true, if_false, ↓k_m1, ↓k_m2, ↓k_m3, ↓k_m5, ↓k_m9, ↓k_m10, ↓k_mno, k_0, k_1, k_2, k_3, k_4, k_5, k_6, k_7, k_8, k_9, k_10, k_11, k_12, k_13, k_14, k_15, k_16, k_17, k_18, k_19, k_20, k_21, k_22, k_23, k_24, k_25, k_26, k_27, k_28, k_29, k_30, k_31, k_32, k_36, k_48, k_50, k_57, k_58, k_59, k_64, k_97, k_99, k_100, k_101, k_102, k_104, k_105, k_107, k_108, k_109, k_110, k_111, k_114, k_115, k_116, k_119, k_122, k_128, k_255, k_500, k_1000, k_1023, k_10000, k_100000, nI_add, nI_mul, nI_sub, nI_sub0, nI_leI, nI_ltI, nI_eq, nM_lt, nM_le, nM_nlt, nM_nle, nM_ne, nM_ne', nM_eq, q_ii, q_ia, q_ij, q_it, q_aa, q_ai, q_aj, q_at, q_jj, q_ji, q_ja, q_jt, q_tt, q_ti, q_ta, q_tj, u_at, uL_at, Nat.zero_mul, Nat.mul_zero, Nat.one_mul, Nat.mul_one, Nat.zero_add, Nat.add_zero, nI_toInt, agN, asN, agLN, asLN, atvN, setvN, if_pos, if_neg]
      refine An_some ⟨rfl, ((((Fr.rf s).a 21 _ (by decide)).a 21 _ (by decide)).a 21 _ (by decide)).a 21 _ (by decide), ?_⟩
      intro j hj
      unfold insR
      by_cases k0 : j = 0
      · subst k0; simp (disch := omega) only [nm_at, Option.bind_some, if_true, if_false, ↓k_m1, ↓k_m2, ↓k_m3, ↓k_m5, ↓k_m9, ↓k_m10, ↓k_mno, k_0, k_1, k_2, k_3, k_4, k_5, k_6, k_7, k_8, k_9, k_10, k_11, k_12, k_13, k_14, k_15, k_16, k_17, k_18, k_19, k_20, k_21, k_22, k_23, k_24, k_25, k_26, k_27, k_28, k_29, k_30, k_31, k_32, k_36, k_48, k_50, k_57, k_58, k_59, k_64, k_97, k_99, k_100, k_101, k_102, k_104, k_105, k_107, k_108, k_109, k_110, k_111, k_114, k_115, k_116, k_119, k_122, k_128, k_255, k_500, k_1000, k_1023, k_10000, k_100000, nI_add, nI_mul, nI_sub, nI_sub0, nI_leI, nI_ltI, nI_eq, nM_lt, nM_le, nM_nlt, nM_nle, nM_ne, nM_ne', nM_eq, q_ii, q_ia, q_ij, q_it, q_aa, q_ai, q_aj, q_at, q_jj, q_ji, q_ja, q_jt, q_tt, q_ti, q_ta, q_tj, u_at, uL_at, Nat.zero_mul, Nat.mul_zero, Nat.one_mul, Nat.mul_one, Nat.zero_add, Nat.add_zero, nI_toInt, agN, asN, agLN, asLN, atvN, setvN, if_pos, if_neg]
      by_cases k1 : j = 1 + 3 * p
      · subst k1; simp (disch := omega) only [nm_at, Option.bind_some, if_true, if_false, ↓k_m1, ↓k_m2, ↓k_m3, ↓k_m5, ↓k_m9, ↓k_m10, ↓k_mno, k_0, k_1, k_2, k_3, k_4, k_5, k_6, k_7, k_8, k_9, k_10, k_11, k_12, k_13, k_14, k_15, k_16, k_17, k_18, k_19, k_20, k_21, k_22, k_23, k_24, k_25, k_26, k_27, k_28, k_29, k_30, k_31, k_32, k_36, k_48, k_50, k_57, k_58, k_59, k_64, k_97, k_99, k_100, k_101, k_102, k_104, k_105, k_107, k_108, k_109, k_110, k_111, k_114, k_115, k_116, k_119, k_122, k_128, k_255, k_500, k_1000, k_1023, k_10000, k_100000, nI_add, nI_mul, nI_sub, nI_sub0, nI_leI, nI_ltI, nI_eq, nM_lt, nM_le, nM_nlt, nM_nle, nM_ne, nM_ne', nM_eq, q_ii, q_ia, q_ij, q_it, q_aa, q_ai, q_aj, q_at, q_jj, q_ji, q_ja, q_jt, q_tt, q_ti, q_ta, q_tj, u_at, uL_at, Nat.zero_mul, Nat.mul_zero, Nat.one_mul, Nat.mul_one, Nat.zero_add, Nat.add_zero, nI_toInt, agN, asN, agLN, asLN, atvN, setvN, if_pos, if_neg]
      by_cases k2 : j = 2 + 3 * p
      · subst k2; simp (disch := omega) only [nm_at, Option.bind_some, if_true, if_false, ↓k_m1, ↓k_m2, ↓k_m3, ↓k_m5, ↓k_m9, ↓k_m10, ↓k_mno, k_0, k_1, k_2, k_3, k_4, k_5, k_6, k_7, k_8, k_9, k_10, k_11, k_12, k_13, k_14, k_15, k_16, k_17, k_18, k_19, k_20, k_21, k_22, k_23, k_24, k_25, k_26, k_27, k_28, k_29, k_30, k_31, k_32, k_36, k_48, k_50, k_57, k_58, k_59, k_64, k_97, k_99, k_100, k_101, k_102, k_104, k_105, k_107, k_108, k_109, k_110, k_111, k_114, k_115, k_116, k_119, k_122, k_128, k_255, k_500, k_1000, k_1023, k_10000, k_100000, nI_add, nI_mul, nI_sub, nI_sub0, nI_leI, nI_ltI, nI_eq, nM_lt, nM_le, nM_nlt, nM_nle, nM_ne, nM_ne', nM_eq, q_ii, q_ia, q_ij, q_it, q_aa, q_ai, q_aj, q_at, q_jj, q_ji, q_ja, q_jt, q_tt, q_ti, q_ta, q_tj, u_at, uL_at, Nat.zero_mul, Nat.mul_zero, Nat.one_mul, Nat.mul_one, Nat.zero_add, Nat.add_zero, nI_toInt, agN, asN, agLN, asLN, atvN, setvN, if_pos, if_neg]
      by_cases k3 : j = 3 + 3 * p
      · subst k3; simp (disch := omega) only [nm_at, Option.bind_some, if_true, if_false, ↓k_m1, ↓k_m2, ↓k_m3, ↓k_m5, ↓k_m9, ↓k_m10, ↓k_mno, k_0, k_1, k_2, k_3, k_4, k_5, k_6, k_7, k_8, k_9, k_10, k_11, k_12, k_13, k_14, k_15, k_16, k_17, k_18, k_19, k_20, k_21, k_22, k_23, k_24, k_25, k_26, k_27, k_28, k_29, k_30, k_31, k_32, k_36, k_48, k_50, k_57, k_58, k_59, k_64, k_97, k_99, k_100, k_101, k_102, k_104, k_105, k_107, k_108, k_109, k_110, k_111, k_114, k_115, k_116, k_119, k_122, k_128, k_255, k_500, k_1000, k_1023, k_10000, k_100000, nI_add, nI_mul, nI_sub, nI_sub0, nI_leI, nI_ltI, nI_eq, nM_lt, nM_le, nM_nlt, nM_nle, nM_ne, nM_ne', nM_eq, q_ii, q_ia, q_ij, q_it, q_aa, q_ai, q_aj, q_at, q_jj, q_ji, q_ja, q_jt, q_tt, q_ti, q_ta, q_tj, u_at, uL_at, Nat.zero_mul, Nat.mul_zero, Nat.one_mul, Nat.mul_one, Nat.zero_add, Nat.add_zero, nI_toInt, agN, asN, agLN, asLN, atvN, setvN, if_pos, if_neg]
      by_cases k4 : j ≤ 3 * p
      · simp (disch := omega) only [h4 j k4, nm_at, Option.bind_some, if_true, if_false, ↓k_m1, ↓k_m2, ↓k_m3, ↓k_m5, ↓k_m9, ↓k_m10, ↓k_mno, k_0, k_1, k_2, k_3, k_4, k_5, k_6, k_7, k_8, k_9, k_10, k_11, k_12, k_13, k_14, k_15, k_16, k_17, k_18, k_19, k_20, k_21, k_22, k_23, k_24, k_25, k_26, k_27, k_28, k_29, k_30, k_31, k_32, k_36, k_48, k_50, k_57, k_58, k_59, k_64, k_97, k_99, k_100, k_101, k_102, k_104, k_105, k_107, k_108, k_109, k_110, k_111, k_114, k_115, k_116, k_119, k_122, k_128, k_255, k_500, k_1000, k_1023, k_10000, k_100000, nI_add, nI_mul, nI_sub, nI_sub0, nI_leI, nI_ltI, nI_eq, nM_lt, nM_le, nM_nlt, nM_nle, nM_ne, nM_ne', nM_eq, q_ii, q_ia, q_ij, q_it, q_aa, q_ai, q_aj, q_at, q_jj, q_ji, q_ja, q_jt, q_tt, q_ti, q_ta, q_tj, u_at, uL_at, Nat.zero_mul, Nat.mul_zero, Nat.one_mul, Nat.mul_one, Nat.zero_add, Nat.add_zero, nI_toInt, agN, asN, agLN, asLN, atvN, setvN, if_pos, if_neg]
        exact congrArg r0 (by omega)
      · simp (disch := omega) only [h5 j (by omega) hj, nm_at, Option.bind_some, if_true, if_false, ↓k_m1, ↓k_m2, ↓k_m3, ↓k_m5, ↓k_m9, ↓k_m10, ↓k_mno, k_0, k_1, k_2, k_3, k_4, k_5, k_6, k_7, k_8, k_9, k_10, k_11, k_12, k_13, k_14, k_15, k_16, k_17, k_18, k_19, k_20, k_21, k_22, k_23, k_24, k_25, k_26, k_27, k_28, k_29, k_30, k_31, k_32, k_36, k_48, k_50, k_57, k_58, k_59, k_64, k_97, k_99, k_100, k_101, k_102, k_104, k_105, k_107, k_108, k_109, k_110, k_111, k_114, k_115, k_116, k_119, k_122, k_128, k_255, k_500, k_1000, k_1023, k_10000, k_100000, nI_add, nI_mul, nI_sub, nI_sub0, nI_leI, nI_ltI, nI_eq, nM_lt, nM_le, nM_nlt, nM_nle, nM_ne, nM_ne', nM_eq, q_ii, q_ia, q_ij, q_it, q_aa, q_ai, q_aj, q_at, q_jj, q_ji, q_ja, q_jt, q_tt, q_ti, q_ta, q_tj, u_at, uL_at, Nat.zero_mul, Nat.mul_zero, Nat.one_mul, Nat.mul_one, Nat.zero_add, Nat.add_zero, nI_toInt, agN, asN, agLN, asLN, atvN, setvN, if_pos, if_neg]
        exact congrArg r0 (by omega)
    · simp (disch := omega) only [nm_at, Option.bind_some, if_true, if_false, ↓k_m1, ↓k_m2, ↓k_m3, ↓k_m5, ↓k_m9, ↓k_m10, ↓k_mno, k_0, k_1, k_2, k_3, k_4, k_5, k_6, k_7, k_8, k_9, k_10, k_11, k_12, k_13, k_14, k_15, k_16, k_17, k_18, k_19, k_20, k_21, k_22, k_23, k_24, k_25, k_26, k_27, k_28, k_29, k_30, k_31, k_32, k_36, k_48, k_50, k_57, k_58, k_59, k_64, k_97, k_99, k_100, k_101, k_102, k_104, k_105, k_107, k_108, k_109, k_110, k_111, k_114, k_115, k_116, k_119, k_122, k_128, k_255, k_500, k_1000, k_1023, k_10000, k_100000, nI_add, nI_mul, nI_sub, nI_sub0, nI_leI, nI_ltI, nI_eq, nM_lt, nM_le, nM_nlt, nM_nle, nM_ne, nM_ne', nM_eq, q_ii, q_ia, q_ij, q_it, q_aa, q_ai, q_aj, q_at, q_jj, q_ji, q_ja, q_jt, q_tt, q_ti, q_ta, q_tj, u_at, uL_at, Nat.zero_mul, Nat.mul_zero, Nat.one_mul, Nat.mul_one, Nat.zero_add, Nat.add_zero, nI_toInt, agN, asN, agLN, asLN, atvN, setvN, if_pos, if_neg]
      refine An_mono (ih (m - 1) _ (by omega) (by omega) (by omega) ?_ ?_) ?_
      · intro j hj
        simp (disch := omega) only [nm_at, Option.bind_some, if_true, if_false, ↓k_m1, ↓k_m2, ↓k_m3, ↓k_m5, ↓k_m9, ↓k_m10, ↓k_mno, k_0, k_1, k_2, k_3, k_4, k_5, k_6, k_7, k_8, k_9, k_10, k_11, k_12, k_13, k_14, k_15, k_16, k_17, k_18, k_19, k_20, k_21, k_22, k_23, k_24, k_25, k_26, k_27, k_28, k_29, k_30, k_31, k_32, k_36, k_48, k_50, k_57, k_58, k_59, k_64, k_97, k_99, k_100, k_101, k_102, k_104, k_105, k_107, k_108, k_109, k_110, k_111, k_114, k_115, k_116, k_119, k_122, k_128, k_255, k_500, k_1000, k_1023, k_10000, k_100000, nI_add, nI_mul, nI_sub, nI_sub0, nI_leI, nI_ltI, nI_eq, nM_lt, nM_le, nM_nlt, nM_nle, nM_ne, nM_ne', nM_eq, q_ii, q_ia, q_ij, q_it, q_aa, q_ai, q_aj, q_at, q_jj, q_ji, q_ja, q_jt, q_tt, q_ti, q_ta, q_tj, u_at, uL_at, Nat.zero_mul, Nat.mul_zero, Nat.one_mul, Nat.mul_one, Nat.zero_add, Nat.add_zero, nI_toInt, agN, asN, agLN, asLN, atvN, setvN, if_pos, if_neg]
        exact h4 j (by omega)
      · intro j hj hj2
        by_cases k0 : j = 3 + m
        · subst k0; simp (disch := omega) only [nm_at, Option.bind_some, if_true, if_false, ↓k_m1, ↓k_m2, ↓k_m3, ↓k_m5, ↓k_m9, ↓k_m10, ↓k_mno, k_0, k_1, k_2, k_3, k_4, k_5, k_6, k_7, k_8, k_9, k_10, k_11, k_12, k_13, k_14, k_15, k_16, k_17, k_18, k_19, k_20, k_21, k_22, k_23, k_24, k_25, k_26, k_27, k_28, k_29, k_30, k_31, k_32, k_36, k_48, k_50, k_57, k_58, k_59, k_64, k_97, k_99, k_100, k_101, k_102, k_104, k_105, k_107, k_108, k_109, k_110, k_111, k_114, k_115, k_116, k_119, k_122, k_128, k_255, k_500, k_1000, k_1023, k_10000, k_100000, nI_add, nI_mul, nI_sub, nI_sub0, nI_leI, nI_ltI, nI_eq, nM_lt, nM_le, nM_nlt, nM_nle, nM_ne, nM_ne', nM_eq, q_ii, q_ia, q_ij, q_it, q_aa, q_ai, q_aj, q_at, q_jj, q_ji, q_ja, q_jt, q_tt, q_ti, q_ta, q_tj, u_at, uL_at, Nat.zero_mul, Nat.mul_zero, Nat.one_mul, Nat.mul_one, Nat.zero_add, Nat.add_zero, nI_toInt, agN, asN, agLN, asLN, atvN, setvN, if_pos, if_neg]
          rw [h4 m (Nat.le_refl m)]
          exact congrArg r0 (by omega)
        · simp (disch := omega) only [nm_at, Option.bind_some, if_true, if_false, ↓k_m1, ↓k_m2, ↓k_m3, ↓k_m5, ↓k_m9, ↓k_m10, ↓k_mno, k_0, k_1, k_2, k_3, k_4, k_5, k_6, k_7, k_8, k_9, k_10, k_11, k_12, k_13, k_14, k_15, k_16, k_17, k_18, k_19, k_20, k_21, k_22, k_23, k_24, k_25, k_26, k_27, k_28, k_29, k_30, k_31, k_32, k_36, k_48, k_50, k_57, k_58, k_59, k_64, k_97, k_99, k_100, k_101, k_102, k_104, k_105, k_107, k_108, k_109, k_110, k_111, k_114, k_115, k_116, k_119, k_122, k_128, k_255, k_500, k_1000, k_1023, k_10000, k_100000, nI_add, nI_mul, nI_sub, nI_sub0, nI_leI, nI_ltI, nI_eq, nM_lt, nM_le, nM_nlt, nM_nle, nM_ne, nM_ne', nM_eq, q_ii, q_ia, q_ij, q_it, q_aa, q_ai, q_aj, q_at, q_jj, q_ji, q_ja, q_jt, q_tt, q_ti, q_ta, q_tj, u_at, uL_at, Nat.zero_mul, Nat.mul_zero, Nat.one_mul, Nat.mul_one, Nat.zero_add, Nat.add_zero, nI_toInt, agN, asN, agLN, asLN, atvN, setvN, if_pos, if_neg]
          exact h5 j (by omega) hj2
      · intro q hq
        exact ⟨hq.1, ((Fr.rf s).a 21 _ (by decide)).tr hq.2.1, hq.2.2⟩
theorem take_lp {P p : Nat} (hp : p ≤ P) (hP : P < 8) (r0 : Nat → Int32) : ∀ f m s, 3 * p ≤ m → m ≤ 3 * P → 3 * P - m < f → mA s 21 0 = nI (P + 1) → (∀ j, j < m → mA s 21 (1 + j) = remR (fun k => r0 (1 + k)) p j) → (∀ j, m < j → j ≤ 3 * P + 3 → mA s 21 j = r0 j) → An (F_X12_take_b19 (nI p) f (nI m) s) (fun q => q.1 = nI P ∧ Fr [] [21] [] s q.2 ∧ mA q.2 21 0 = nI P ∧ ∀ j, j < 3 * P → mA q.2 21 (1 + j) = remR (fun k => r0 (1 + k)) p j) := by
  intro f
  induction f with
  | zero => intro m s _ _ h; omega
  | succ f ih =>
    intro m s h1 h2 h3 e0 h4 h5
    rw [F_X12_take_b19]
    by_cases h : 3 * P ≤ m
    · simp (disch := omega) only [e0, nm_at, Option.bind_some, if_true, if_false, ↓k_m1, ↓k_m2, ↓k_m3, ↓k_m5, ↓k_m9, ↓k_m10, ↓k_mno, k_0, k_1, k_2, k_3, k_4, k_5, k_6, k_7, k_8, k_9, k_10, k_11, k_12, k_13, k_14, k_15, k_16, k_17, k_18, k_19, k_20, k_21, k_22, k_23, k_24, k_25, k_26, k_27, k_28, k_29, k_30, k_31, k_32, k_36, k_48, k_50, k_57, k_58, k_59, k_64, k_97, k_99, k_100, k_101, k_102, k_104, k_105, k_107, k_108, k_109, k_110, k_111, k_114, k_115, k_116, k_119, k_122, k_128, k_255, k_500, k_1000, k_1023, k_10000, k_100000, nI_add, nI_mul, nI_sub, nI_sub0, nI_leI, nI_ltI, nI_eq, nM_lt, nM_le, nM_nlt, nM_nle, nM_ne, nM_ne', nM_eq, q_ii, q_ia, q_ij, q_it, q_aa, q_ai, q_aj, q_at, q_jj, q_ji, q_ja, q_jt, q_tt, q_ti, q_ta, q_tj, u_at, uL_at, Nat.zero_mul, Nat.mul_zero, Nat.one_mul, Nat.mul_one, Nat.zero_add, Nat.add_zero, nI_toInt, agN, asN, agLN, asLN, atvN, setvN, if_pos, if_neg]
      refine An_some ⟨rfl, (Fr.rf s).a 21 _ (by decide), ?_, ?_⟩
      · simp (disch := omega) only [nm_at, Option.bind_some, if_true, if_false, ↓k_m1, ↓k_m2, ↓k_m3, ↓k_m5, ↓k_m9, ↓k_m10, ↓k_mno, k_0, k_1, k_2, k_3, k_4, k_5, k_6, k_7, k_8, k_9, k_10, k_11, k_12, k_13, k_14, k_15, k_16, k_17, k_18, k_19, k_20, k_21, k_22, k_23, k_24, k_25, k_26, k_27, k_28, k_29, k_30, k_31, k_32, k_36, k_48, k_50, k_57, k_58, k_59, k_64, k_97, k_99, k_100, k_101, k_102, k_104, k_105, k_107, k_108, k_109, k_110, k_111, k_114, k_115, k_116, k_119, k_122, k_128, k_255, k_500, k_1000, k_1023, k_10000, k_100000, nI_add, nI_mul, nI_sub, nI_sub0, nI_leI, nI_ltI, nI_eq, nM_lt, nM_le, nM_nlt, nM_nle, nM_ne, nM_ne', nM_eq, q_ii, q_ia, q_ij, q_it, q_aa, q_ai, q_aj, q_at, q_jj, q_ji, q_ja, q_jt, q_tt, q_ti, q_ta, q_tj, u_at, uL_at, Nat.zero_mul, Nat.mul_zero, Nat.one_mul, Nat.mul_one, Nat.zero_add, Nat.add_zero, nI_toInt, agN, asN, agLN, asLN, atvN, setvN, if_pos, if_neg]; omega
      · intro j hj
        simp (disch := omega) only [nm_at, Option.bind_some, if_true, if_false, ↓k_m1, ↓k_m2, ↓k_m3, ↓k_m5, ↓k_m9, ↓k_m10, ↓k_mno, k_0, k_1, k_2, k_3, k_4, k_5, k_6, k_7, k_8, k_9, k_10, k_11, k_12, k_13, k_14, k_15, k_16, k_17, k_18, k_19, k_20, k_21, k_22, k_23, k_24, k_25, k_26, k_27, k_28, k_29, k_30, k_31, k_32, k_36, k_48, k_50, k_57, k_58, k_59, k_64, k_97, k_99, k_100, k_101, k_102, k_104, k_105, k_107, k_108, k_109, k_110, k_111, k_114, k_115, k_116, k_119, k_122, k_128, k_255, k_500, k_1000, k_1023, k_10000, k_100000, nI_add, nI_mul, nI_sub, nI_sub0, nI_leI, nI_ltI, nI_eq, nM_lt, nM_le, nM_nlt, nM_nle, nM_ne, nM_ne', nM_eq, q_ii, q_ia, q_ij, q_it, q_aa, q_ai, q_aj, q_at, q_jj, q_ji, q_ja, q_jt, q_tt, q_ti, q_ta, q_tj, u_at, uL_at, Nat.zero_mul, Nat.mul_zero, Nat.one_mul, Nat.mul_one, Nat.zero_add, Nat.add_zero, nI_toInt, agN, asN, agLN, asLN, atvN, setvN, if_pos, if_neg]
        exact h4 j (by omega)
    · simp (disch := omega) only [e0, nm_at, Option.bind_some, if_true, if_false, ↓k_m1, ↓k_m2, ↓k_m3, ↓k_m5, ↓k_m9, ↓k_m10, ↓k_mno, k_0, k_1, k_2, k_3, k_4, k_5, k_6, k_7, k_8, k_9, k_10, k_11, k_12, k_13, k_14, k_15, k_16, k_17, k_18, k_19, k_20, k_21, k_22, k_23, k_24, k_25, k_26, k_27, k_28, k_29, k_30, k_31, k_32, k_36, k_48, k_50, k_57, k_58, k_59, k_64, k_97, k_99, k_100, k_101, k_102, k_104, k_105, k_107, k_108, k_109, k_110, k_111, k_114, k_115, k_116, k_119, k_122, k_128, k_255, k_500, k_1000, k_1023, k_10000, k_100000, nI_add, nI_mul, nI_sub, nI_sub0, nI_leI, nI_ltI, nI_eq, nM_lt, nM_le, nM_nlt, nM_nle, nM_ne, nM_ne', nM_eq, q_ii, q_ia, q_ij, q_it, q_aa, q_ai, q_aj, q_at, q_jj, q_ji, q_ja, q_jt, q_tt, q_ti, q_ta, q_tj, u_at, uL_at, Nat.zero_mul, Nat.mul_zero, Nat.one_mul, Nat.mul_one, Nat.zero_add, Nat.add_zero, nI_toInt, agN, asN, agLN, asLN, atvN, setvN, if_pos, if_neg]
      refine An_mono (ih (m + 1) _ (by omega) (by omega) (by omega) ?_ ?_ ?_) ?_
      · simp (disch := omega) only [nm_at, Option.bind_some, if_true, if_false, ↓k_m1, ↓k_m2, ↓k_m3, ↓k_m5, ↓k_m9, ↓k_m10, ↓k_mno, k_0, k_1, k_2, k_3, k_4, k_5, k_6, k_7, k_8, k_9, k_10, k_11, k_12, k_13, k_14, k_15, k_16, k_17, k_18, k_19, k_20, k_21, k_22, k_23, k_24, k_25, k_26, k_27, k_28, k_29, k_30, k_31, k_32, k_36, k_48, k_50, k_57, k_58, k_59, k_64, k_97, k_99, k_100, k_101, k_102, k_104, k_105, k_107, k_108, k_109, k_110, k_111, k_114, k_115, k_116, k_119, k_122, k_128, k_255, k_500, k_1000, k_1023, k_10000, k_100000, nI_add, nI_mul, nI_sub, nI_sub0, nI_leI, nI_ltI, nI_eq, nM_lt, nM_le, nM_nlt, nM_nle, nM_ne, nM_ne', nM_eq, q_ii, q_ia, q_ij, q_it, q_aa, q_ai, q_aj, q_at, q_jj, q_ji, q_ja, q_jt, q_tt, q_ti, q_ta, q_tj, u_at, uL_at, Nat.zero_mul, Nat.mul_zero, Nat.one_mul, Nat.mul_one, Nat.zero_add, Nat.add_zero, nI_toInt, agN, asN, agLN, asLN, atvN, setvN, if_pos, if_neg]; exact e0
      · intro j hj
        by_cases k0 : j = m
        · subst k0; simp (disch := omega) only [nm_at, Option.bind_some, if_true, if_false, ↓k_m1, ↓k_m2, ↓k_m3, ↓k_m5, ↓k_m9, ↓k_m10, ↓k_mno, k_0, k_1, k_2, k_3, k_4, k_5, k_6, k_7, k_8, k_9, k_10, k_11, k_12, k_13, k_14, k_15, k_16, k_17, k_18, k_19, k_20, k_21, k_22, k_23, k_24, k_25, k_26, k_27, k_28, k_29, k_30, k_31, k_32, k_36, k_48, k_50, k_57, k_58, k_59, k_64, k_97, k_99, k_100, k_101, k_102, k_104, k_105, k_107, k_108, k_109, k_110, k_111, k_114, k_115, k_116, k_119, k_122, k_128, k_255, k_500, k_1000, k_1023, k_10000, k_100000, nI_add, nI_mul, nI_sub, nI_sub0, nI_leI, nI_ltI, nI_eq, nM_lt, nM_le, nM_nlt, nM_nle, nM_ne, nM_ne', nM_eq, q_ii, q_ia, q_ij, q_it, q_aa, q_ai, q_aj, q_at, q_jj, q_ji, q_ja, q_jt, q_tt, q_ti, q_ta, q_tj, u_at, uL_at, Nat.zero_mul, Nat.mul_zero, Nat.one_mul, Nat.mul_one, Nat.zero_add, Nat.add_zero, nI_toInt, agN, asN, agLN, asLN, atvN, setvN, if_pos, if_neg]
          rw [h5 (4 + j) (by omega) (by omega)]
          unfold remR
          simp (disch := omega) only [nm_at, Option.bind_some, if_true, if_false, ↓k_m1, ↓k_m2, ↓k_m3, ↓k_m5, ↓k_m9, ↓k_m10, ↓k_mno, k_0, k_1, k_2, k_3, k_4, k_5, k_6, k_7, k_8, k_9, k_10, k_11, k_12, k_13, k_14, k_15, k_16, k_17, k_18, k_19, k_20, k_21, k_22, k_23, k_24, k_25, k_26, k_27, k_28, k_29, k_30, k_31, k_32, k_36, k_48, k_50, k_57, k_58, k_59, k_64, k_97, k_99, k_100, k_101, k_102, k_104, k_105, k_107, k_108, k_109, k_110, k_111, k_114, k_115, k_116, k_119, k_122, k_128, k_255, k_500, k_1000, k_1023, k_10000, k_100000, nI_add, nI_mul, nI_sub, nI_sub0, nI_leI, nI_ltI, nI_eq, nM_lt, nM_le, nM_nlt, nM_nle, nM_ne, nM_ne', nM_eq, q_ii, q_ia, q_ij, q_it, q_aa, q_ai, q_aj, q_at, q_jj, q_ji, q_ja, q_jt, q_tt, q_ti, q_ta, q_tj, u_at, uL_at, Nat.zero_mul, Nat.mul_zero, Nat.one_mul, Nat.mul_one, Nat.zero_add, Nat.add_zero, nI_toInt, agN, asN, agLN, asLN, atvN, setvN, if_pos, if_neg]
          exact congrArg r0 (by omega)
        · simp (disch := omega) only [nm_at, Option.bind_some, if_true, if_false, ↓k_m1, ↓k_m2, ↓k_m3, ↓k_m5, ↓k_m9, ↓k_m10, ↓k_mno, k_0, k_1, k_2, k_3, k_4, k_5, k_6, k_7, k_8, k_9, k_10, k_11, k_12, k_13, k_14, k_15, k_16, k_17, k_18, k_19, k_20, k_21, k_22, k_23, k_24, k_25, k_26, k_27, k_28, k_29, k_30, k_31, k_32, k_36, k_48, k_50, k_57, k_58, k_59, k_64, k_97, k_99, k_100, k_101, k_102, k_104, k_105, k_107, k_108, k_109, k_110, k_111, k_114, k_115, k_116, k_119, k_122, k_128, k_255, k_500, k_1000, k_1023, k_10000, k_100000, nI_add, nI_mul, nI_sub, nI_sub0, nI_leI, nI_ltI, nI_eq, nM_lt, nM_le, nM_nlt, nM_nle, nM_ne, nM_ne', nM_eq, q_ii, q_ia, q_ij, q_it, q_aa, q_ai, q_aj, q_at, q_jj, q_ji, q_ja, q_jt, q_tt, q_ti, q_ta, q_tj, u_at, uL_at, Nat.zero_mul, Nat.mul_zero, Nat.one_mul, Nat.mul_one, Nat.zero_add, Nat.add_zero, nI_toInt, agN, asN, agLN, asLN, atvN, setvN, if_pos, if_neg]
          exact h4 j (by omega)
      · intro j hj hj2
        simp (disch := omega) only [nm_at, Option.bind_some, if_true, if_false, ↓k_m1, ↓k_m2, ↓k_m3, ↓k_m5, ↓k_m9, ↓k_m10, ↓k_mno, k_0, k_1, k_2, k_3, k_4, k_5, k_6, k_7, k_8, k_9, k_10, k_11, k_12, k_13, k_14, k_15, k_16, k_17, k_18, k_19, k_20, k_21, k_22, k_23, k_24, k_25, k_26, k_27, k_28, k_29, k_30, k_31, k_32, k_36, k_48, k_50, k_57, k_58, k_59, k_64, k_97, k_99, k_100, k_101, k_102, k_104, k_105, k_107, k_108, k_109, k_110, k_111, k_114, k_115, k_116, k_119, k_122, k_128, k_255, k_500, k_1000, k_1023, k_10000, k_100000, nI_add, nI_mul, nI_sub, nI_sub0, nI_leI, nI_ltI, nI_eq, nM_lt, nM_le, nM_nlt, nM_nle, nM_ne, nM_ne', nM_eq, q_ii, q_ia, q_ij, q_it, q_aa, q_ai, q_aj, q_at, q_jj, q_ji, q_ja, q_jt, q_tt, q_ti, q_ta, q_tj, u_at, uL_at, Nat.zero_mul, Nat.mul_zero, Nat.one_mul, Nat.mul_one, Nat.zero_add, Nat.add_zero, nI_toInt, agN, asN, agLN, asLN, atvN, setvN, if_pos, if_neg]
        exact h5 j (by omega) hj2
      · intro q hq
        exact ⟨hq.1, ((Fr.rf s).a 21 _ (by decide)).tr hq.2.1, hq.2.2⟩
/-- how the paper changes, all else as it was -/
theorem IV.pap {o : S11} {tx : S8} {tr row i1 i2 : S4} {t7 : S7} {t10 : S10} {t1 : S1} {ts pp ps : S4} {ms ms' : SM} {W F S T : Nat} (hc : mI ms 13 = nI W ∧ mI ms 14 = nI F ∧ mI ms 15 = nI S ∧ mI ms 3 = nI T) (hTX : TX tx T (mA ms 2)) (hWR : WR t10 W (mA ms 9)) (hFR : FR t1 F (mA ms 10)) (hMR : MR t7 (mA ms 11)) (hLS : LR ts S 6 W (mA ms 12)) (hI1 : IM o i1 0 W ms) (hI2 : IM o i2 1 W ms) (hMo : s4_most tr = nI 8 ∧ s4_most row = nI 6 ∧ s4_most pp = nI 8 ∧ s4_most ps = nI 6) (hTr : s11_traced o = mT ms) (hf : Fr [0] [21] [] ms ms') {tp' : S4} {P' : Nat} (hP' : mA ms' 21 0 = nI P') (hL : LR tp' P' 8 W (fun k => mA ms' 21 (1 + k))) : IV o tx tr row i1 i2 t7 t10 t1 tp' ts pp ps ms' := by
  have im : ∀ im c, IM o im c W ms → IM o im c W ms' := by
    intro im c h
    unfold IM
    rw [hf.2.1 23 (by decide), hf.2.1 22 (by decide)]
    exact h
  refine ⟨W, F, P', S, T, ⟨?_, ?_, hP', ?_, ?_⟩, ?_, ?_, ?_, ?_, hL, ?_, im _ _ hI1, im _ _ hI2, hMo, ?_⟩
  · rw [hf.1 13 (by decide)]; exact hc.1
  · rw [hf.1 14 (by decide)]; exact hc.2.1
  · rw [hf.1 15 (by decide)]; exact hc.2.2.1
  · rw [hf.1 3 (by decide)]; exact hc.2.2.2
  · rw [hf.2.1 2 (by decide)]; exact hTX
  · rw [hf.2.1 9 (by decide)]; exact hWR
  · rw [hf.2.1 10 (by decide)]; exact hFR
  · rw [hf.2.1 11 (by decide)]; exact hMR
  · rw [hf.2.1 12 (by decide)]; exact hLS
  · rw [hf.2.2.2]; exact hTr
theorem in1 {x : Int32} {b : Nat} (hb : b < 2 ^ 31) (h : 0 ≤ x.toInt ∧ x.toInt ≤ (b : Int)) : F_X12_in x 0 (nI b) = some 1 := by
  have e := in_rng (a := 0) (b := b) (by omega) hb x
  rw [if_pos (show ((0 : Nat) : Int) ≤ x.toInt ∧ x.toInt ≤ (b : Int) from h)] at e
  exact e
theorem in0 {x : Int32} {b : Nat} (hb : b < 2 ^ 31) (h : ¬ (0 ≤ x.toInt ∧ x.toInt ≤ (b : Int))) : F_X12_in x 0 (nI b) = some 0 := by
  have e := in_rng (a := 0) (b := b) (by omega) hb x
  rw [if_neg (show ¬ (((0 : Nat) : Int) ≤ x.toInt ∧ x.toInt ≤ (b : Int)) from h)] at e
  exact e
theorem out_x {x : Int32} {b : Nat} (hb : b < 2 ^ 31) (h : ¬ (0 ≤ x.toInt ∧ x.toInt ≤ (b : Int))) : x < 0 ∨ ¬ x < 0 ∧ nI b < x ∧ ¬ x ≤ nI b := by
  rw [i_lt, pz0, i_lt, i_le, nI_toInt hb]
  omega
theorem in_x {x : Int32} {b : Nat} (hb : b < 2 ^ 31) (h : 0 ≤ x.toInt ∧ x.toInt ≤ (b : Int)) : ¬ x < 0 ∧ ¬ nI b < x ∧ x ≤ nI b := by
  rw [i_lt, pz0, i_lt, i_le, nI_toInt hb]
  omega
theorem one0 : ¬ (1 : Int32) = 0 := by decide
/-- put of the class, by what is told -/
theorem putX_1 {o : S11} {t7 : S7} {tp : S4} {t10 : S10} {P : Nat} {x1 x2 x3 x4 : Int32} (hs : s4_size tp = nI P) (hP8 : P ≤ 8) (h : ¬ (0 ≤ x1.toInt ∧ x1.toInt ≤ (P : Int))) : F_X11_put o t7 tp t10 x1 x2 x3 x4 = some (-1, tp) := by
  unfold F_X11_put
  rcases out_x (by omega) h with e | ⟨e1, e2, -⟩
  · rw [if_pos e]
  · rw [if_neg e1, show F_X4_size tp = some (nI P) from by unfold F_X4_size; rw [hs], Option.bind_some, if_pos e2]
theorem putX_2 {o : S11} {t7 : S7} {tp : S4} {t10 : S10} {P W : Nat} {x1 x2 x3 x4 : Int32} (hs : s4_size tp = nI P) (hP8 : P ≤ 8) (h : 0 ≤ x1.toInt ∧ x1.toInt ≤ (P : Int)) (hz : s10_size t10 = nI W) (h16 : W ≤ 16) : F_X11_put o t7 tp t10 x1 x2 x3 x4 = if 0 ≤ x2.toInt ∧ x2.toInt < W then (if x3 < 0 then some (-1, tp) else (if 9 < x3 then some (-1, tp) else (if x4 < 0 then some (-1, tp) else (if x4 ≤ 16 then (F_X4_isFull tp).bind fun q_3 => (if q_3 = 0 then (F_X4_insert tp x1 x2 x3 x4).bind fun q_4 => (F_X4_size q_4).bind fun q_5 => some (q_5, q_4) else some (-3, tp)) else some (-1, tp))))) else some (-1, tp) := by
  obtain ⟨e1, e2, -⟩ := in_x (by omega) h
  unfold F_X11_put
  rw [if_neg e1, show F_X4_size tp = some (nI P) from by unfold F_X4_size; rw [hs], Option.bind_some, if_neg e2, whas_t t10 (by omega) hz, Option.bind_some, if10]
theorem putM_1 {ms : SM} {P : Nat} {x1 x2 x3 x4 : Int32} (hP : mA ms 21 0 = nI P) (hP8 : P ≤ 8) (h : ¬ (0 ≤ x1.toInt ∧ x1.toInt ≤ (P : Int))) : F_X12_put ms x1 x2 x3 x4 = some (-1, mIs ms 0 0) := by
  have e0 : aget 25 (mA (mIs ms 0 0) 21) 0 = some (nI P) := by rw [← hP]; exact agN (k := 0) (by omega) (by omega)
  unfold F_X12_put
  rw [nm_at, e0, Option.bind_some, in0 (by omega) h, Option.bind_some, if_pos rfl]
theorem putM_2 {ms : SM} {P W : Nat} {x1 x2 x3 x4 : Int32} (hP : mA ms 21 0 = nI P) (hP8 : P ≤ 8) (h : 0 ≤ x1.toInt ∧ x1.toInt ≤ (P : Int)) (hW : mI ms 13 = nI W) (h16 : W ≤ 16) : F_X12_put ms x1 x2 x3 x4 = if 0 ≤ x2.toInt ∧ x2.toInt < W then ((F_X12_in x3 0 9).bind fun q_19 => (if q_19 = 0 then some (-1, mIs ms 0 0) else (F_X12_in x4 0 16).bind fun q_20 => (if q_20 = 0 then some (-1, mIs ms 0 0) else if nI P = 8 then some (-3, mIs ms 0 0) else F_X12_put_b74 x1 x2 x3 x4 fu (nI (3 * P)) (mIs ms 0 0)))) else some (-1, mIs ms 0 0) := by
  have e0 : aget 25 (mA (mIs ms 0 0) 21) 0 = some (nI P) := by rw [← hP]; exact agN (k := 0) (by omega) (by omega)
  unfold F_X12_put
  rw [nm_at, e0, Option.bind_some, in1 (by omega) h, Option.bind_some, if_neg one0, isWord_t (s := mIs ms 0 0) hW (by omega), Option.bind_some, if10, ← nI_mul]
  rfl
theorem op_put {st : SX} {ms : SM} (h : Inv st ms) (a1 a2 a3 a4 : Int32) : ∃ (r r2 : Int32) (st2 : SX) (ms2 : SM), X_put st a1 a2 a3 a4 = some (r, st2) ∧ M_put ms a1 a2 a3 a4 = some (r2, ms2) ∧ r = r2 ∧ Inv st2 ms2 := by
  obtain ⟨o, tx, ve, tr, me, gu, ch, row, i1, i2, t7, t10, t1, tp, ts, p7, p10, p1, pp, ps⟩ := st
  obtain ⟨W, F, P, S, T, ⟨hW, hF, hP, hS, hT⟩, hTX, hWR, hFR, hMR, hLP, hLS, hI1, hI2, hMo, hTr⟩ := id h
  have hP8 := hLP.1
  have hW16 := hWR.1
  have hs := hLP.2.2.1.1
  simp only [] at hs
  have bad : ∀ v : Int32, F_X11_put o t7 tp t10 a1 a2 a3 a4 = some (v, tp) → F_X12_put ms a1 a2 a3 a4 = some (v, mIs ms 0 0) → ∃ (r r2 : Int32) (st2 : SX) (ms2 : SM), X_put (o, tx, ve, tr, me, gu, ch, row, i1, i2, t7, t10, t1, tp, ts, p7, p10, p1, pp, ps) a1 a2 a3 a4 = some (r, st2) ∧ M_put ms a1 a2 a3 a4 = some (r2, ms2) ∧ r = r2 ∧ Inv st2 ms2 := fun v x1 x2 =>
    ⟨v, v, _, _, by unfold X_put; rw [x1]; rfl, by unfold M_put; rw [x2]; rfl, rfl, IV.f0 h (fr0 ms)⟩
  by_cases c1 : 0 ≤ a1.toInt ∧ a1.toInt ≤ (P : Int)
  · have x2 := fun (o : S11) (t7 : S7) => putX_2 (o := o) (t7 := t7) (x2 := a2) (x3 := a3) (x4 := a4) hs hP8 c1 hWR.2.1 hW16
    have m2 := putM_2 (x2 := a2) (x3 := a3) (x4 := a4) hP hP8 c1 hW hW16
    by_cases c2 : 0 ≤ a2.toInt ∧ a2.toInt < W
    · by_cases c3 : 0 ≤ a3.toInt ∧ a3.toInt ≤ ((9 : Nat) : Int)
      · obtain ⟨e1, e2, -⟩ := in_x (b := 9) (by omega) c3
        have e2 : ¬ (9 : Int32) < a3 := e2
        have e3 : F_X12_in a3 0 9 = some 1 := in1 (b := 9) (by omega) c3
        by_cases c4 : 0 ≤ a4.toInt ∧ a4.toInt ≤ ((16 : Nat) : Int)
        · obtain ⟨f1, -, f2⟩ := in_x (b := 16) (by omega) c4
          have f2 : a4 ≤ (16 : Int32) := f2
          have f3 : F_X12_in a4 0 16 = some 1 := in1 (b := 16) (by omega) c4
          by_cases c5 : P = 8
          · refine bad (-3) ?_ ?_
            · rw [x2, if_pos c2, if_neg e1, if_neg e2, if_neg f1, if_pos f2]
              unfold F_X4_isFull
              rw [hs, hLP.2.1, if_neg (nI_nlt (by omega) (by omega)), Option.bind_some, if_neg one0]
            · rw [m2, if_pos c2, e3, Option.bind_some, if_neg one0, f3, Option.bind_some, if_neg one0, if_pos (show nI P = 8 from by rw [c5]; rfl)]
          · obtain ⟨p, hp, rfl⟩ := Lb.of (n := P + 1) (x := a1) (by omega)
            obtain ⟨w, hw, rfl⟩ := Lb.of c2
            obtain ⟨b, hb, rfl⟩ := Lb.of (n := 10) (x := a3) (by omega)
            obtain ⟨c, hc, rfl⟩ := Lb.of (n := 17) (x := a4) (by omega)
            obtain ⟨s', f1', f2'⟩ := hLP.ins (by omega) (by omega) (p := p) (by omega) (Lb_nI hw) (Lb_nI hb) (Lb_nI hc)
            obtain ⟨q, g1, g2, g3, g4⟩ := put_lp (P := P) (p := p) (by omega) (by omega) (nI w) (nI b) (nI c) (mA ms 21) hP fu (3 * P) (mIs ms 0 (nI 0)) (by omega) (by omega) (by unfold fu; omega) (fun _ _ => rfl) (fun j h1 h2 => by omega)
            refine ⟨nI (P + 1), q.1, (o, tx, ve, tr, me, gu, ch, row, i1, i2, t7, t10, t1, s', ts, p7, p10, p1, pp, ps), q.2, ?_, ?_, g2.symm, ?_⟩
            · have z : F_X11_put o t7 tp t10 (nI p) (nI w) (nI b) (nI c) = some (nI (P + 1), s') := by
                rw [x2, if_pos c2, if_neg e1, if_neg e2, if_neg f1, if_pos f2, show F_X4_isFull tp = some 0 from by unfold F_X4_isFull; rw [hs, hLP.2.1, if_pos (nI_lt (by omega) (by omega))], Option.bind_some, if_pos rfl, f1', Option.bind_some]
                unfold F_X4_size
                rw [f2'.2.2.1.1, Option.bind_some]
              unfold X_put
              rw [z]
              rfl
            · have z : F_X12_put ms (nI p) (nI w) (nI b) (nI c) = some q := by
                rw [m2, if_pos c2, e3, Option.bind_some, if_neg one0, f3, Option.bind_some, if_neg one0, if_neg (show ¬ nI P = 8 from by rw [show (8 : Int32) = nI 8 from rfl, nI_eq (by omega) (by omega)]; exact c5)]
                exact g1
              unfold M_put
              rw [z]
              rfl
            · refine IV.pap ⟨hW, hF, hS, hT⟩ hTX hWR hFR hMR hLS hI1 hI2 hMo hTr (((Fr.rf ms).i 0 (nI 0) (by decide)).tr (g3.wd (by simp) (fun _ x => x) (by simp))) (P' := P + 1) ?_ ?_
              · rw [g4 0 (by omega), if_pos rfl]
              · refine f2'.cg fun j hj => ?_
                show mA q.2 21 (1 + j) = _
                rw [g4 (1 + j) (by omega), if_neg (by omega)]
                exact congrArg _ (by omega)
        · refine bad (-1) ?_ ?_
          · rw [x2, if_pos c2, if_neg e1, if_neg e2]
            rcases out_x (b := 16) (by omega) c4 with f | ⟨f1, -, f2⟩
            · rw [if_pos f]
            · rw [if_neg f1, if_neg (show ¬ a4 ≤ (16 : Int32) from f2)]
          · rw [m2, if_pos c2, e3, Option.bind_some, if_neg one0, show F_X12_in a4 0 16 = some 0 from in0 (b := 16) (by omega) c4, Option.bind_some, if_pos rfl]
      · refine bad (-1) ?_ ?_
        · rw [x2, if_pos c2]
          rcases out_x (b := 9) (by omega) c3 with f | ⟨f1, f2, -⟩
          · rw [if_pos f]
          · rw [if_neg f1, if_pos (show (9 : Int32) < a3 from f2)]
        · rw [m2, if_pos c2, show F_X12_in a3 0 9 = some 0 from in0 (b := 9) (by omega) c3, Option.bind_some, if_pos rfl]
    · exact bad (-1) (by rw [x2, if_neg c2]) (by rw [m2, if_neg c2])
  · exact bad (-1) (putX_1 hs hP8 c1) (putM_1 hP hP8 c1)
theorem op_change {st : SX} {ms : SM} (h : Inv st ms) (a1 a2 : Int32) : ∃ (r r2 : Int32) (st2 : SX) (ms2 : SM), X_change st a1 a2 = some (r, st2) ∧ M_change ms a1 a2 = some (r2, ms2) ∧ r = r2 ∧ Inv st2 ms2 := by
  obtain ⟨o, tx, ve, tr, me, gu, ch, row, i1, i2, t7, t10, t1, tp, ts, p7, p10, p1, pp, ps⟩ := st
  obtain ⟨W, F, P, S, T, ⟨hW, hF, hP, hS, hT⟩, hTX, hWR, hFR, hMR, hLP, hLS, hI1, hI2, hMo, hTr⟩ := id h
  have hP8 := hLP.1
  have hW16 := hWR.1
  have hs := hLP.2.2.1.1
  simp only [] at hs
  by_cases c1 : 0 ≤ a1.toInt ∧ a1.toInt < P
  · by_cases c2 : 0 ≤ a2.toInt ∧ a2.toInt < W
    · obtain ⟨p, hp, rfl⟩ := Lb.of c1
      obtain ⟨w, hw, rfl⟩ := Lb.of c2
      obtain ⟨e1, -, -⟩ := hLP.2.2.1.at hp
      simp only [] at e1
      refine ⟨mA ms 21 (1 + 3 * p), mA ms 21 (1 + 3 * p), _, _, (by unfold X_change F_X11_change F_X4_setWord; simp (disch := omega) only [has_t tp (by omega) hs, whas_t t10 (by omega) hWR.2.1, if10, wordAt_t, e1, set_total, nm_at, Option.bind_some, if_true, if_false, ↓k_m1, ↓k_m2, ↓k_m3, ↓k_m5, ↓k_m9, ↓k_m10, ↓k_mno, k_0, k_1, k_2, k_3, k_4, k_5, k_6, k_7, k_8, k_9, k_10, k_11, k_12, k_13, k_14, k_15, k_16, k_17, k_18, k_19, k_20, k_21, k_22, k_23, k_24, k_25, k_26, k_27, k_28, k_29, k_30, k_31, k_32, k_36, k_48, k_50, k_57, k_58, k_59, k_64, k_97, k_99, k_100, k_101, k_102, k_104, k_105, k_107, k_108, k_109, k_110, k_111, k_114, k_115, k_116, k_119, k_122, k_128, k_255, k_500, k_1000, k_1023, k_10000, k_100000, nI_add, nI_mul, nI_sub, nI_sub0, nI_leI, nI_ltI, nI_eq, nM_lt, nM_le, nM_nlt, nM_nle, nM_ne, nM_ne', nM_eq, q_ii, q_ia, q_ij, q_it, q_aa, q_ai, q_aj, q_at, q_jj, q_ji, q_ja, q_jt, q_tt, q_ti, q_ta, q_tj, u_at, uL_at, Nat.zero_mul, Nat.mul_zero, Nat.one_mul, Nat.mul_one, Nat.zero_add, Nat.add_zero, nI_toInt, agN, asN, agLN, asLN, atvN, setvN, if_pos, if_neg]; rfl), (by unfold M_change F_X12_change; simp (disch := omega) only [isLine_t (s := mIs ms 0 (nI 0)) hP, isWord_t (s := mIs ms 0 (nI 0)) hW, if10, nm_at, Option.bind_some, if_true, if_false, ↓k_m1, ↓k_m2, ↓k_m3, ↓k_m5, ↓k_m9, ↓k_m10, ↓k_mno, k_0, k_1, k_2, k_3, k_4, k_5, k_6, k_7, k_8, k_9, k_10, k_11, k_12, k_13, k_14, k_15, k_16, k_17, k_18, k_19, k_20, k_21, k_22, k_23, k_24, k_25, k_26, k_27, k_28, k_29, k_30, k_31, k_32, k_36, k_48, k_50, k_57, k_58, k_59, k_64, k_97, k_99, k_100, k_101, k_102, k_104, k_105, k_107, k_108, k_109, k_110, k_111, k_114, k_115, k_116, k_119, k_122, k_128, k_255, k_500, k_1000, k_1023, k_10000, k_100000, nI_add, nI_mul, nI_sub, nI_sub0, nI_leI, nI_ltI, nI_eq, nM_lt, nM_le, nM_nlt, nM_nle, nM_ne, nM_ne', nM_eq, q_ii, q_ia, q_ij, q_it, q_aa, q_ai, q_aj, q_at, q_jj, q_ji, q_ja, q_jt, q_tt, q_ti, q_ta, q_tj, u_at, uL_at, Nat.zero_mul, Nat.mul_zero, Nat.one_mul, Nat.mul_one, Nat.zero_add, Nat.add_zero, nI_toInt, agN, asN, agLN, asLN, atvN, setvN, if_pos, if_neg]; rfl), rfl, ?_⟩
      refine IV.pap ⟨hW, hF, hS, hT⟩ hTX hWR hFR hMR hLS hI1 hI2 hMo hTr (((Fr.rf ms).i 0 (nI 0) (by decide)).a 21 _ (by decide)) (P' := P) ?_ ?_
      · simp (disch := omega) only [nm_at, Option.bind_some, if_true, if_false, ↓k_m1, ↓k_m2, ↓k_m3, ↓k_m5, ↓k_m9, ↓k_m10, ↓k_mno, k_0, k_1, k_2, k_3, k_4, k_5, k_6, k_7, k_8, k_9, k_10, k_11, k_12, k_13, k_14, k_15, k_16, k_17, k_18, k_19, k_20, k_21, k_22, k_23, k_24, k_25, k_26, k_27, k_28, k_29, k_30, k_31, k_32, k_36, k_48, k_50, k_57, k_58, k_59, k_64, k_97, k_99, k_100, k_101, k_102, k_104, k_105, k_107, k_108, k_109, k_110, k_111, k_114, k_115, k_116, k_119, k_122, k_128, k_255, k_500, k_1000, k_1023, k_10000, k_100000, nI_add, nI_mul, nI_sub, nI_sub0, nI_leI, nI_ltI, nI_eq, nM_lt, nM_le, nM_nlt, nM_nle, nM_ne, nM_ne', nM_eq, q_ii, q_ia, q_ij, q_it, q_aa, q_ai, q_aj, q_at, q_jj, q_ji, q_ja, q_jt, q_tt, q_ti, q_ta, q_tj, u_at, uL_at, Nat.zero_mul, Nat.mul_zero, Nat.one_mul, Nat.mul_one, Nat.zero_add, Nat.add_zero, nI_toInt, agN, asN, agLN, asLN, atvN, setvN, if_pos, if_neg]; exact hP
      · refine ⟨hP8, hLP.2.1, ⟨hs, fun j hj => ?_⟩, fun j hj => ?_⟩
        · have e := hLP.2.2.1.2 j hj
          unfold ln ln3 at e ⊢
          simp only [Prod.mk.injEq] at e ⊢
          show upd (s4_words tp) p (nI w) j = upd (mA ms 21) (1 + 3 * p) (nI w) (1 + 3 * j) ∧ s4_things tp j = upd (mA ms 21) (1 + 3 * p) (nI w) (1 + (3 * j + 1)) ∧ s4_befores tp j = upd (mA ms 21) (1 + 3 * p) (nI w) (1 + (3 * j + 2))
          by_cases k : j = p
          · subst k; simp (disch := omega) only [e.2.1, e.2.2, nm_at, Option.bind_some, if_true, if_false, ↓k_m1, ↓k_m2, ↓k_m3, ↓k_m5, ↓k_m9, ↓k_m10, ↓k_mno, k_0, k_1, k_2, k_3, k_4, k_5, k_6, k_7, k_8, k_9, k_10, k_11, k_12, k_13, k_14, k_15, k_16, k_17, k_18, k_19, k_20, k_21, k_22, k_23, k_24, k_25, k_26, k_27, k_28, k_29, k_30, k_31, k_32, k_36, k_48, k_50, k_57, k_58, k_59, k_64, k_97, k_99, k_100, k_101, k_102, k_104, k_105, k_107, k_108, k_109, k_110, k_111, k_114, k_115, k_116, k_119, k_122, k_128, k_255, k_500, k_1000, k_1023, k_10000, k_100000, nI_add, nI_mul, nI_sub, nI_sub0, nI_leI, nI_ltI, nI_eq, nM_lt, nM_le, nM_nlt, nM_nle, nM_ne, nM_ne', nM_eq, q_ii, q_ia, q_ij, q_it, q_aa, q_ai, q_aj, q_at, q_jj, q_ji, q_ja, q_jt, q_tt, q_ti, q_ta, q_tj, u_at, uL_at, Nat.zero_mul, Nat.mul_zero, Nat.one_mul, Nat.mul_one, Nat.zero_add, Nat.add_zero, nI_toInt, agN, asN, agLN, asLN, atvN, setvN, if_pos, if_neg]; exact ⟨trivial, trivial, trivial⟩
          · simp (disch := omega) only [e.1, e.2.1, e.2.2, nm_at, Option.bind_some, if_true, if_false, ↓k_m1, ↓k_m2, ↓k_m3, ↓k_m5, ↓k_m9, ↓k_m10, ↓k_mno, k_0, k_1, k_2, k_3, k_4, k_5, k_6, k_7, k_8, k_9, k_10, k_11, k_12, k_13, k_14, k_15, k_16, k_17, k_18, k_19, k_20, k_21, k_22, k_23, k_24, k_25, k_26, k_27, k_28, k_29, k_30, k_31, k_32, k_36, k_48, k_50, k_57, k_58, k_59, k_64, k_97, k_99, k_100, k_101, k_102, k_104, k_105, k_107, k_108, k_109, k_110, k_111, k_114, k_115, k_116, k_119, k_122, k_128, k_255, k_500, k_1000, k_1023, k_10000, k_100000, nI_add, nI_mul, nI_sub, nI_sub0, nI_leI, nI_ltI, nI_eq, nM_lt, nM_le, nM_nlt, nM_nle, nM_ne, nM_ne', nM_eq, q_ii, q_ia, q_ij, q_it, q_aa, q_ai, q_aj, q_at, q_jj, q_ji, q_ja, q_jt, q_tt, q_ti, q_ta, q_tj, u_at, uL_at, Nat.zero_mul, Nat.mul_zero, Nat.one_mul, Nat.mul_one, Nat.zero_add, Nat.add_zero, nI_toInt, agN, asN, agLN, asLN, atvN, setvN, if_pos, if_neg]; exact ⟨trivial, trivial, trivial⟩
        · have e := hLP.2.2.2 j hj
          show Lb (upd (mA ms 21) (1 + 3 * p) (nI w) (1 + 3 * j)) W ∧ Lb (upd (mA ms 21) (1 + 3 * p) (nI w) (1 + (3 * j + 1))) 10 ∧ Lb (upd (mA ms 21) (1 + 3 * p) (nI w) (1 + (3 * j + 2))) 17
          by_cases k : j = p
          · subst k; simp (disch := omega) only [nm_at, Option.bind_some, if_true, if_false, ↓k_m1, ↓k_m2, ↓k_m3, ↓k_m5, ↓k_m9, ↓k_m10, ↓k_mno, k_0, k_1, k_2, k_3, k_4, k_5, k_6, k_7, k_8, k_9, k_10, k_11, k_12, k_13, k_14, k_15, k_16, k_17, k_18, k_19, k_20, k_21, k_22, k_23, k_24, k_25, k_26, k_27, k_28, k_29, k_30, k_31, k_32, k_36, k_48, k_50, k_57, k_58, k_59, k_64, k_97, k_99, k_100, k_101, k_102, k_104, k_105, k_107, k_108, k_109, k_110, k_111, k_114, k_115, k_116, k_119, k_122, k_128, k_255, k_500, k_1000, k_1023, k_10000, k_100000, nI_add, nI_mul, nI_sub, nI_sub0, nI_leI, nI_ltI, nI_eq, nM_lt, nM_le, nM_nlt, nM_nle, nM_ne, nM_ne', nM_eq, q_ii, q_ia, q_ij, q_it, q_aa, q_ai, q_aj, q_at, q_jj, q_ji, q_ja, q_jt, q_tt, q_ti, q_ta, q_tj, u_at, uL_at, Nat.zero_mul, Nat.mul_zero, Nat.one_mul, Nat.mul_one, Nat.zero_add, Nat.add_zero, nI_toInt, agN, asN, agLN, asLN, atvN, setvN, if_pos, if_neg]; exact ⟨Lb_nI hw, e.2⟩
          · simp (disch := omega) only [nm_at, Option.bind_some, if_true, if_false, ↓k_m1, ↓k_m2, ↓k_m3, ↓k_m5, ↓k_m9, ↓k_m10, ↓k_mno, k_0, k_1, k_2, k_3, k_4, k_5, k_6, k_7, k_8, k_9, k_10, k_11, k_12, k_13, k_14, k_15, k_16, k_17, k_18, k_19, k_20, k_21, k_22, k_23, k_24, k_25, k_26, k_27, k_28, k_29, k_30, k_31, k_32, k_36, k_48, k_50, k_57, k_58, k_59, k_64, k_97, k_99, k_100, k_101, k_102, k_104, k_105, k_107, k_108, k_109, k_110, k_111, k_114, k_115, k_116, k_119, k_122, k_128, k_255, k_500, k_1000, k_1023, k_10000, k_100000, nI_add, nI_mul, nI_sub, nI_sub0, nI_leI, nI_ltI, nI_eq, nM_lt, nM_le, nM_nlt, nM_nle, nM_ne, nM_ne', nM_eq, q_ii, q_ia, q_ij, q_it, q_aa, q_ai, q_aj, q_at, q_jj, q_ji, q_ja, q_jt, q_tt, q_ti, q_ta, q_tj, u_at, uL_at, Nat.zero_mul, Nat.mul_zero, Nat.one_mul, Nat.mul_one, Nat.zero_add, Nat.add_zero, nI_toInt, agN, asN, agLN, asLN, atvN, setvN, if_pos, if_neg]; exact e
    · refine ⟨nM 1, nM 1, _, _, ?_, ?_, rfl, IV.f0 h (fr0 ms)⟩
      · unfold X_change F_X11_change
        simp (disch := omega) only [has_t tp (by omega) hs, whas_t t10 (by omega) hWR.2.1, if10, nm_at, Option.bind_some, if_true, if_false, ↓k_m1, ↓k_m2, ↓k_m3, ↓k_m5, ↓k_m9, ↓k_m10, ↓k_mno, k_0, k_1, k_2, k_3, k_4, k_5, k_6, k_7, k_8, k_9, k_10, k_11, k_12, k_13, k_14, k_15, k_16, k_17, k_18, k_19, k_20, k_21, k_22, k_23, k_24, k_25, k_26, k_27, k_28, k_29, k_30, k_31, k_32, k_36, k_48, k_50, k_57, k_58, k_59, k_64, k_97, k_99, k_100, k_101, k_102, k_104, k_105, k_107, k_108, k_109, k_110, k_111, k_114, k_115, k_116, k_119, k_122, k_128, k_255, k_500, k_1000, k_1023, k_10000, k_100000, nI_add, nI_mul, nI_sub, nI_sub0, nI_leI, nI_ltI, nI_eq, nM_lt, nM_le, nM_nlt, nM_nle, nM_ne, nM_ne', nM_eq, q_ii, q_ia, q_ij, q_it, q_aa, q_ai, q_aj, q_at, q_jj, q_ji, q_ja, q_jt, q_tt, q_ti, q_ta, q_tj, u_at, uL_at, Nat.zero_mul, Nat.mul_zero, Nat.one_mul, Nat.mul_one, Nat.zero_add, Nat.add_zero, nI_toInt, agN, asN, agLN, asLN, atvN, setvN, if_pos, if_neg]
        rfl
      · unfold M_change F_X12_change
        simp (disch := omega) only [isLine_t (s := mIs ms 0 (nI 0)) hP, isWord_t (s := mIs ms 0 (nI 0)) hW, if10, nm_at, Option.bind_some, if_true, if_false, ↓k_m1, ↓k_m2, ↓k_m3, ↓k_m5, ↓k_m9, ↓k_m10, ↓k_mno, k_0, k_1, k_2, k_3, k_4, k_5, k_6, k_7, k_8, k_9, k_10, k_11, k_12, k_13, k_14, k_15, k_16, k_17, k_18, k_19, k_20, k_21, k_22, k_23, k_24, k_25, k_26, k_27, k_28, k_29, k_30, k_31, k_32, k_36, k_48, k_50, k_57, k_58, k_59, k_64, k_97, k_99, k_100, k_101, k_102, k_104, k_105, k_107, k_108, k_109, k_110, k_111, k_114, k_115, k_116, k_119, k_122, k_128, k_255, k_500, k_1000, k_1023, k_10000, k_100000, nI_add, nI_mul, nI_sub, nI_sub0, nI_leI, nI_ltI, nI_eq, nM_lt, nM_le, nM_nlt, nM_nle, nM_ne, nM_ne', nM_eq, q_ii, q_ia, q_ij, q_it, q_aa, q_ai, q_aj, q_at, q_jj, q_ji, q_ja, q_jt, q_tt, q_ti, q_ta, q_tj, u_at, uL_at, Nat.zero_mul, Nat.mul_zero, Nat.one_mul, Nat.mul_one, Nat.zero_add, Nat.add_zero, nI_toInt, agN, asN, agLN, asLN, atvN, setvN, if_pos, if_neg]
        rfl
  · refine ⟨nM 1, nM 1, _, _, ?_, ?_, rfl, IV.f0 h (fr0 ms)⟩
    · unfold X_change F_X11_change
      simp (disch := omega) only [has_t tp (by omega) hs, if10, nm_at, Option.bind_some, if_true, if_false, ↓k_m1, ↓k_m2, ↓k_m3, ↓k_m5, ↓k_m9, ↓k_m10, ↓k_mno, k_0, k_1, k_2, k_3, k_4, k_5, k_6, k_7, k_8, k_9, k_10, k_11, k_12, k_13, k_14, k_15, k_16, k_17, k_18, k_19, k_20, k_21, k_22, k_23, k_24, k_25, k_26, k_27, k_28, k_29, k_30, k_31, k_32, k_36, k_48, k_50, k_57, k_58, k_59, k_64, k_97, k_99, k_100, k_101, k_102, k_104, k_105, k_107, k_108, k_109, k_110, k_111, k_114, k_115, k_116, k_119, k_122, k_128, k_255, k_500, k_1000, k_1023, k_10000, k_100000, nI_add, nI_mul, nI_sub, nI_sub0, nI_leI, nI_ltI, nI_eq, nM_lt, nM_le, nM_nlt, nM_nle, nM_ne, nM_ne', nM_eq, q_ii, q_ia, q_ij, q_it, q_aa, q_ai, q_aj, q_at, q_jj, q_ji, q_ja, q_jt, q_tt, q_ti, q_ta, q_tj, u_at, uL_at, Nat.zero_mul, Nat.mul_zero, Nat.one_mul, Nat.mul_one, Nat.zero_add, Nat.add_zero, nI_toInt, agN, asN, agLN, asLN, atvN, setvN, if_pos, if_neg]
      rfl
    · unfold M_change F_X12_change
      simp (disch := omega) only [isLine_t (s := mIs ms 0 (nI 0)) hP, if10, nm_at, Option.bind_some, if_true, if_false, ↓k_m1, ↓k_m2, ↓k_m3, ↓k_m5, ↓k_m9, ↓k_m10, ↓k_mno, k_0, k_1, k_2, k_3, k_4, k_5, k_6, k_7, k_8, k_9, k_10, k_11, k_12, k_13, k_14, k_15, k_16, k_17, k_18, k_19, k_20, k_21, k_22, k_23, k_24, k_25, k_26, k_27, k_28, k_29, k_30, k_31, k_32, k_36, k_48, k_50, k_57, k_58, k_59, k_64, k_97, k_99, k_100, k_101, k_102, k_104, k_105, k_107, k_108, k_109, k_110, k_111, k_114, k_115, k_116, k_119, k_122, k_128, k_255, k_500, k_1000, k_1023, k_10000, k_100000, nI_add, nI_mul, nI_sub, nI_sub0, nI_leI, nI_ltI, nI_eq, nM_lt, nM_le, nM_nlt, nM_nle, nM_ne, nM_ne', nM_eq, q_ii, q_ia, q_ij, q_it, q_aa, q_ai, q_aj, q_at, q_jj, q_ji, q_ja, q_jt, q_tt, q_ti, q_ta, q_tj, u_at, uL_at, Nat.zero_mul, Nat.mul_zero, Nat.one_mul, Nat.mul_one, Nat.zero_add, Nat.add_zero, nI_toInt, agN, asN, agLN, asLN, atvN, setvN, if_pos, if_neg]
      rfl
theorem op_take {st : SX} {ms : SM} (h : Inv st ms) (a1 : Int32) : ∃ (r r2 : Int32) (st2 : SX) (ms2 : SM), X_take st a1 = some (r, st2) ∧ M_take ms a1 = some (r2, ms2) ∧ r = r2 ∧ Inv st2 ms2 := by
  obtain ⟨o, tx, ve, tr, me, gu, ch, row, i1, i2, t7, t10, t1, tp, ts, p7, p10, p1, pp, ps⟩ := st
  obtain ⟨W, F, P, S, T, ⟨hW, hF, hP, hS, hT⟩, hTX, hWR, hFR, hMR, hLP, hLS, hI1, hI2, hMo, hTr⟩ := id h
  have hP8 := hLP.1
  have hs := hLP.2.2.1.1
  simp only [] at hs
  by_cases c1 : 0 ≤ a1.toInt ∧ a1.toInt < P
  · obtain ⟨p, hp, rfl⟩ := Lb.of c1
    obtain ⟨Q, rfl⟩ : ∃ Q, P = Q + 1 := ⟨P - 1, by omega⟩
    obtain ⟨s', f1, f2⟩ := hLP.rem (p := p) (by omega)
    obtain ⟨q, g1, g2, g3, g4, g5⟩ := take_lp (P := Q) (p := p) (by omega) (by omega) (mA ms 21) fu (3 * p) (mIs ms 0 (nI 0)) (by omega) (by omega) (by unfold fu; omega) hP (fun j hj => by unfold remR; rw [if_pos hj]; rfl) (fun _ _ _ => rfl)
    refine ⟨nI Q, q.1, (o, tx, ve, tr, me, gu, ch, row, i1, i2, t7, t10, t1, s', ts, p7, p10, p1, pp, ps), q.2, ?_, ?_, g2.symm, ?_⟩
    · unfold X_take F_X11_take F_X4_size
      simp (disch := omega) only [has_t tp (by omega) hs, if10, f1, f2.2.2.1.1, nm_at, Option.bind_some, if_true, if_false, ↓k_m1, ↓k_m2, ↓k_m3, ↓k_m5, ↓k_m9, ↓k_m10, ↓k_mno, k_0, k_1, k_2, k_3, k_4, k_5, k_6, k_7, k_8, k_9, k_10, k_11, k_12, k_13, k_14, k_15, k_16, k_17, k_18, k_19, k_20, k_21, k_22, k_23, k_24, k_25, k_26, k_27, k_28, k_29, k_30, k_31, k_32, k_36, k_48, k_50, k_57, k_58, k_59, k_64, k_97, k_99, k_100, k_101, k_102, k_104, k_105, k_107, k_108, k_109, k_110, k_111, k_114, k_115, k_116, k_119, k_122, k_128, k_255, k_500, k_1000, k_1023, k_10000, k_100000, nI_add, nI_mul, nI_sub, nI_sub0, nI_leI, nI_ltI, nI_eq, nM_lt, nM_le, nM_nlt, nM_nle, nM_ne, nM_ne', nM_eq, q_ii, q_ia, q_ij, q_it, q_aa, q_ai, q_aj, q_at, q_jj, q_ji, q_ja, q_jt, q_tt, q_ti, q_ta, q_tj, u_at, uL_at, Nat.zero_mul, Nat.mul_zero, Nat.one_mul, Nat.mul_one, Nat.zero_add, Nat.add_zero, nI_toInt, agN, asN, agLN, asLN, atvN, setvN, if_pos, if_neg]
      rfl
    · unfold M_take F_X12_take
      simp (disch := omega) only [isLine_t (s := mIs ms 0 (nI 0)) hP, if10, g1, nm_at, Option.bind_some, if_true, if_false, ↓k_m1, ↓k_m2, ↓k_m3, ↓k_m5, ↓k_m9, ↓k_m10, ↓k_mno, k_0, k_1, k_2, k_3, k_4, k_5, k_6, k_7, k_8, k_9, k_10, k_11, k_12, k_13, k_14, k_15, k_16, k_17, k_18, k_19, k_20, k_21, k_22, k_23, k_24, k_25, k_26, k_27, k_28, k_29, k_30, k_31, k_32, k_36, k_48, k_50, k_57, k_58, k_59, k_64, k_97, k_99, k_100, k_101, k_102, k_104, k_105, k_107, k_108, k_109, k_110, k_111, k_114, k_115, k_116, k_119, k_122, k_128, k_255, k_500, k_1000, k_1023, k_10000, k_100000, nI_add, nI_mul, nI_sub, nI_sub0, nI_leI, nI_ltI, nI_eq, nM_lt, nM_le, nM_nlt, nM_nle, nM_ne, nM_ne', nM_eq, q_ii, q_ia, q_ij, q_it, q_aa, q_ai, q_aj, q_at, q_jj, q_ji, q_ja, q_jt, q_tt, q_ti, q_ta, q_tj, u_at, uL_at, Nat.zero_mul, Nat.mul_zero, Nat.one_mul, Nat.mul_one, Nat.zero_add, Nat.add_zero, nI_toInt, agN, asN, agLN, asLN, atvN, setvN, if_pos, if_neg]
      rfl
    · refine IV.pap ⟨hW, hF, hS, hT⟩ hTX hWR hFR hMR hLS hI1 hI2 hMo hTr (((Fr.rf ms).i 0 (nI 0) (by decide)).tr (g3.wd (by simp) (fun _ x => x) (by simp))) (P' := Q) g4 ?_
      exact f2.cg fun j hj => g5 j hj
  · refine ⟨nM 1, nM 1, _, _, ?_, ?_, rfl, IV.f0 h (fr0 ms)⟩
    · unfold X_take F_X11_take
      simp (disch := omega) only [has_t tp (by omega) hs, if10, nm_at, Option.bind_some, if_true, if_false, ↓k_m1, ↓k_m2, ↓k_m3, ↓k_m5, ↓k_m9, ↓k_m10, ↓k_mno, k_0, k_1, k_2, k_3, k_4, k_5, k_6, k_7, k_8, k_9, k_10, k_11, k_12, k_13, k_14, k_15, k_16, k_17, k_18, k_19, k_20, k_21, k_22, k_23, k_24, k_25, k_26, k_27, k_28, k_29, k_30, k_31, k_32, k_36, k_48, k_50, k_57, k_58, k_59, k_64, k_97, k_99, k_100, k_101, k_102, k_104, k_105, k_107, k_108, k_109, k_110, k_111, k_114, k_115, k_116, k_119, k_122, k_128, k_255, k_500, k_1000, k_1023, k_10000, k_100000, nI_add, nI_mul, nI_sub, nI_sub0, nI_leI, nI_ltI, nI_eq, nM_lt, nM_le, nM_nlt, nM_nle, nM_ne, nM_ne', nM_eq, q_ii, q_ia, q_ij, q_it, q_aa, q_ai, q_aj, q_at, q_jj, q_ji, q_ja, q_jt, q_tt, q_ti, q_ta, q_tj, u_at, uL_at, Nat.zero_mul, Nat.mul_zero, Nat.one_mul, Nat.mul_one, Nat.zero_add, Nat.add_zero, nI_toInt, agN, asN, agLN, asLN, atvN, setvN, if_pos, if_neg]
      rfl
    · unfold M_take F_X12_take
      simp (disch := omega) only [isLine_t (s := mIs ms 0 (nI 0)) hP, if10, nm_at, Option.bind_some, if_true, if_false, ↓k_m1, ↓k_m2, ↓k_m3, ↓k_m5, ↓k_m9, ↓k_m10, ↓k_mno, k_0, k_1, k_2, k_3, k_4, k_5, k_6, k_7, k_8, k_9, k_10, k_11, k_12, k_13, k_14, k_15, k_16, k_17, k_18, k_19, k_20, k_21, k_22, k_23, k_24, k_25, k_26, k_27, k_28, k_29, k_30, k_31, k_32, k_36, k_48, k_50, k_57, k_58, k_59, k_64, k_97, k_99, k_100, k_101, k_102, k_104, k_105, k_107, k_108, k_109, k_110, k_111, k_114, k_115, k_116, k_119, k_122, k_128, k_255, k_500, k_1000, k_1023, k_10000, k_100000, nI_add, nI_mul, nI_sub, nI_sub0, nI_leI, nI_ltI, nI_eq, nM_lt, nM_le, nM_nlt, nM_nle, nM_ne, nM_ne', nM_eq, q_ii, q_ia, q_ij, q_it, q_aa, q_ai, q_aj, q_at, q_jj, q_ji, q_ja, q_jt, q_tt, q_ti, q_ta, q_tj, u_at, uL_at, Nat.zero_mul, Nat.mul_zero, Nat.one_mul, Nat.mul_one, Nat.zero_add, Nat.add_zero, nI_toInt, agN, asN, agLN, asLN, atvN, setvN, if_pos, if_neg]
      rfl
