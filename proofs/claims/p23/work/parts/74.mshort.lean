/-! ===== shortest: the reference always answers ===== -/
theorem pigeon : ∀ (k : Nat) (p : Nat → Nat), ∃ v, v ≤ k ∧ ∀ j, j < k → ¬ p j = v := by
  intro k
  induction k with
  | zero => intro p; exact ⟨0, by omega, fun j hj => by omega⟩
  | succ k ih =>
    intro p
    obtain ⟨v, v1, v2⟩ := ih p
    by_cases c : p k = v
    · obtain ⟨u, u1, u2⟩ := ih (fun j => if p j = k + 1 then v else p j)
      by_cases d : u = v
      · refine ⟨k + 1, by omega, fun j hj e => ?_⟩
        by_cases g : j = k
        · rw [g] at e; omega
        · have := u2 j (by omega)
          rw [if_pos e] at this
          exact this d.symm
      · refine ⟨u, by omega, fun j hj e => ?_⟩
        by_cases g : j = k
        · rw [g] at e; omega
        · have := u2 j (by omega)
          rw [if_neg (by omega)] at this
          exact this e
    · refine ⟨v, by omega, fun j hj e => ?_⟩
      by_cases g : j = k
      · rw [g] at e; exact c e
      · exact v2 j (by omega) e
theorem inRow_t {s : SM} {v k : Nat} (hv : v < 100) (hk : k ≤ 6) : An (F_X12_isInRow s (nI v) (nI k)) (is01 (∃ j, j < k ∧ mA s 33 j = nI v)) := by
  unfold F_X12_isInRow
  rw [nm_at, nm_at]
  refine lp_up (fun q u (x : Int32) => F_X12_isInRow_b5 s (nI v) (nI k) q x u) k (fun m x => is01 (∃ j, j < m ∧ mA s 33 j = nI v) x) _ ?_ ?_ fu 0 (nI 0) (by omega) (by unfold fu; omega) (is01_0 fun ⟨j, hj, _⟩ => by omega)
  · intro q m x hm hx hK
    show An (F_X12_isInRow_b5 s (nI v) (nI k) (q + 1) x (nI m)) _
    rw [F_X12_isInRow_b5, if_neg (nI_ge hm (by omega)), agN (by omega) (by omega), Option.bind_some]
    unfold F_X12_isInRow_b28
    by_cases c : mA s 33 m = nI v
    · rw [if_pos c, nm_at, nm_at, nI_1]
      refine hK _ ?_
      rw [show x ||| 1 = nI 1 from by rcases is01_cases hx with ⟨y, -⟩ | ⟨y, -⟩ <;> rw [y] <;> decide]
      exact is01_1 ⟨m, by omega, c⟩
    · rw [if_neg c, nm_at, nm_at, nI_1]
      refine hK _ ?_
      rw [show x ||| 0 = x from or_0 x]
      refine ⟨hx.1, hx.2.trans ⟨?_, ?_⟩⟩
      · rintro ⟨j, y1, y2⟩; exact ⟨j, by omega, y2⟩
      · rintro ⟨j, y1, y2⟩
        by_cases g : j = m
        · rw [g] at y2; exact absurd y2 c
        · exact ⟨j, by omega, y2⟩
  · intro q x hx
    show An (F_X12_isInRow_b5 s (nI v) (nI k) (q + 1) x (nI k)) _
    rw [F_X12_isInRow_b5, if_pos (nI_le (Nat.le_refl k) (by omega)), show zb x = some x from by rcases is01_cases hx with ⟨y, -⟩ | ⟨y, -⟩ <;> rw [y] <;> rfl, Option.bind_some]
    exact An_some hx
theorem fills_t {s : SM} {a n : Nat} (ha : a ≤ n) (hn : n ≤ 6) : An (F_X12_fills s (nI a) (nI n)) (fun s' => Fr [] [33] [] s s' ∧ (∀ j, j < a → mA s' 33 j = mA s 33 j) ∧ ∀ k, a ≤ k → k < n → Lb (mA s' 33 k) (k + 1)) := by
  unfold F_X12_fills
  rw [nm_at]
  refine lp_up (fun q u y => F_X12_fills_b2 (nI a) (nI n) q u y) n (fun m y => a ≤ m ∧ Fr [] [33] [] s y ∧ (∀ j, j < a → mA y 33 j = mA s 33 j) ∧ ∀ k, a ≤ k → k < m → Lb (mA y 33 k) (k + 1)) _ ?_ ?_ fu a s ha (by unfold fu; omega) ⟨Nat.le_refl a, Fr.rf s, fun _ _ => rfl, fun k _ _ => by omega⟩
  · intro q m y hm ⟨h0, h1, h2, h3⟩ hK
    show An (F_X12_fills_b2 (nI a) (nI n) (q + 1) (nI m) y) _
    rw [F_X12_fills_b2, if_neg (nI_ge hm (by omega)), nm_at]
    obtain ⟨v0, v1, v2⟩ := pigeon m (fun j => cn (mA y 33 j))
    have fin : ∀ v, v ≤ v0 → An ((aset 6 (mA y 33) (nI m) (nI v)).bind fun f_2 => nm (mAs y 33 f_2) fun s_o_3 => nm (nI m + 1) fun v3_4 => F_X12_fills_b2 (nI a) (nI n) q v3_4 s_o_3) (fun s' => Fr [] [33] [] s s' ∧ (∀ j, j < a → mA s' 33 j = mA s 33 j) ∧ ∀ k, a ≤ k → k < n → Lb (mA s' 33 k) (k + 1)) := by
      intro v hv
      rw [asN _ (by omega) (by omega), Option.bind_some, nm_at, nm_at, nI_1]
      refine hK _ ⟨by omega, h1.a 33 _ (by decide), fun j hj => ?_, fun k hk1 hk2 => ?_⟩
      · rw [q_aa, if_pos rfl, u_at, if_neg (by omega)]; exact h2 j hj
      · rw [q_aa, if_pos rfl, u_at]
        by_cases g : k = m
        · rw [if_pos g]; exact ⟨v, by omega, rfl⟩
        · rw [if_neg g]; exact h3 k hk1 (by omega)
    refine lp_up (fun q2 u (_ : Unit) => F_X12_fills_b10 (nI a) (nI n) (F_X12_fills_b2 (nI a) (nI n) q) q2 (nI m) u y) v0 (fun _ _ => True) _ ?_ ?_ fu 0 () (by omega) (by unfold fu; omega) trivial
    · intro q2 v _ hv _ hK2
      obtain ⟨x, x1, x2⟩ := inRow_t (s := y) (v := v) (k := m) (by omega) (by omega)
      show An (F_X12_fills_b10 (nI a) (nI n) (F_X12_fills_b2 (nI a) (nI n) q) (q2 + 1) (nI m) (nI v) y) _
      rw [F_X12_fills_b10, x1, Option.bind_some]
      refine An_if (fun _ => fin v (by omega)) (fun _ => ?_)
      rw [nm_at, nI_1]
      exact hK2 () trivial
    · intro q2 _ _
      obtain ⟨x, x1, x2⟩ := inRow_t (s := y) (v := v0) (k := m) (by omega) (by omega)
      show An (F_X12_fills_b10 (nI a) (nI n) (F_X12_fills_b2 (nI a) (nI n) q) (q2 + 1) (nI m) (nI v0) y) _
      rw [F_X12_fills_b10, x1, Option.bind_some]
      rcases is01_cases x2 with ⟨e, -⟩ | ⟨-, j, j1, j2⟩
      · rw [if_pos (show x = 0 from e)]; exact fin v0 (Nat.le_refl v0)
      · refine absurd ?_ (v2 j j1)
        rw [j2, cn_nI (by omega)]
  · intro q y ⟨h0, h1, h2, h3⟩
    show An (F_X12_fills_b2 (nI a) (nI n) (q + 1) (nI n) y) _
    rw [F_X12_fills_b2, if_pos (nI_le (Nat.le_refl n) (by omega))]
    exact An_some ⟨h1, h2, h3⟩
def rowOK (S n : Nat) (s : SM) : Prop := ∀ k, k < n → Lb (mA s 33 k) S
def goP (S n : Nat) (s : SM) (q : Int32 × SM) : Prop := Fr [] [33] [] s q.2 ∧ (q.1 = nI 0 ∨ (q.1 = nI 1 ∧ rowOK S n q.2 ∧ ∃ a, a < n ∧ (∀ j, j < a → mA q.2 33 j = mA s 33 j) ∧ cn (mA s 33 a) < cn (mA q.2 33 a)))
theorem goesOn_t {s : SM} {n S : Nat} (hn : n ≤ S) (h6 : S ≤ 6) (h15 : mI s 15 = nI S) (hr : rowOK S n s) : An (F_X12_goesOn s (nI n)) (goP S n s) := by
  unfold F_X12_goesOn
  rw [nm_at]
  refine lp_dn (fun q u y => F_X12_goesOn_b4 (nI n) q u y) (fun m y => m ≤ n ∧ y = s) _ ?_ ?_ fu n s (by unfold fu; omega) ⟨Nat.le_refl n, rfl⟩
  · intro q a y ⟨hm, hy⟩ hK
    subst hy
    show An (F_X12_goesOn_b4 (nI n) (q + 1) (nI a) y) _
    obtain ⟨v, hv, ev⟩ := hr a (by omega)
    rw [F_X12_goesOn_b4, if_neg (nI_pos (by omega)), agN (by omega) (by omega), Option.bind_some, ev, nm_at, nI_1]
    have b40 : ∀ u, v < u → u ≤ S → An (F_X12_goesOn_b40 (nI n) (F_X12_goesOn_b4 (nI n) q) (nI a) (nI u) y) (goP S n y) := by
      intro u hu hu2
      unfold F_X12_goesOn_b40
      rw [h15]
      by_cases c : S ≤ u
      · rw [if_pos (nI_le c (by omega)), nm_at]
        exact hK y ⟨by omega, rfl⟩
      · rw [if_neg (nI_ge (by omega) (by omega)), asN _ (by omega) (by omega), Option.bind_some, nm_at, nI_1]
        obtain ⟨s3, e1, e2, e3, e4⟩ := fills_t (s := mAs y 33 (upd (mA y 33) a (nI u))) (a := a + 1) (n := n) (by omega) (by omega)
        rw [e1, Option.bind_some]
        have ea : mA s3 33 a = nI u := by rw [e3 a (by omega), q_aa, if_pos rfl, u_at, if_pos rfl]
        have eb : ∀ j, j < a → mA s3 33 j = mA y 33 j := fun j hj => by rw [e3 j (by omega), q_aa, if_pos rfl, u_at, if_neg (by omega)]
        refine An_some ⟨((Fr.rf y).a 33 _ (by decide)).tr e2, Or.inr ⟨rfl, fun k hk => ?_, a, by omega, eb, ?_⟩⟩
        · show Lb (mA s3 33 k) S
          by_cases c1 : k < a
          · rw [eb k c1]; exact hr k hk
          · by_cases c2 : k = a
            · rw [c2, ea]; exact ⟨u, by omega, rfl⟩
            · exact (e4 k (by omega) hk).mono (by omega)
        · show cn (mA y 33 a) < cn (mA s3 33 a)
          rw [ev, ea, cn_nI (by omega), cn_nI (by omega)]; exact hu
    refine lp_up (fun q2 u (_ : Unit) => F_X12_goesOn_b17 (nI n) (F_X12_goesOn_b4 (nI n) q) q2 (nI a) u y) S (fun u _ => v < u) _ ?_ ?_ fu (v + 1) () (by omega) (by unfold fu; omega) (by omega)
    · intro q2 u _ hu hvu hK2
      obtain ⟨x, x1, x2⟩ := inRow_t (s := y) (v := u) (k := a) (by omega) (by omega)
      show An (F_X12_goesOn_b17 (nI n) (F_X12_goesOn_b4 (nI n) q) (q2 + 1) (nI a) (nI u) y) _
      rw [F_X12_goesOn_b17, h15, if_neg (nI_ge hu (by omega)), x1, Option.bind_some]
      refine An_if (fun _ => b40 u hvu (by omega)) (fun _ => ?_)
      rw [nm_at, nI_1]
      exact hK2 () (by omega)
    · intro q2 _ hvu
      show An (F_X12_goesOn_b17 (nI n) (F_X12_goesOn_b4 (nI n) q) (q2 + 1) (nI a) (nI S) y) _
      rw [F_X12_goesOn_b17, h15, if_pos (nI_le (Nat.le_refl S) (by omega))]
      exact b40 S hvu (Nat.le_refl S)
  · intro q y ⟨hm, hy⟩
    subst hy
    show An (F_X12_goesOn_b4 (nI n) (q + 1) (nI 0 - 1) y) _
    rw [F_X12_goesOn_b4, if_pos (show nI 0 - 1 < 0 from by decide)]
    exact An_some ⟨Fr.rf y, Or.inl rfl⟩
def vl (p : Nat → Nat) : Nat → Nat
  | 0 => 0
  | k + 1 => 6 * vl p k + p k
theorem vl_bound {p : Nat → Nat} : ∀ n, (∀ k, k < n → p k < 6) → n ≤ 6 → vl p n < 6 ^ n := by
  intro n
  induction n with
  | zero => intro _ _; show 0 < 6 ^ 0; decide
  | succ n ih =>
    intro h hn
    have := ih (fun k hk => h k (by omega)) (by omega)
    have h2 := h n (by omega)
    rw [vl, Nat.pow_succ]
    omega
theorem vl_lt {p q : Nat → Nat} {a : Nat} (he : ∀ j, j < a → p j = q j) (hl : p a < q a) : ∀ n, a < n → (∀ k, k < n → p k < 6) → vl p n < vl q n := by
  have eq : ∀ k, k ≤ a → vl p k = vl q k := by
    intro k
    induction k with
    | zero => intro _; rfl
    | succ k ih => intro h; rw [vl, vl, ih (by omega), he k (by omega)]
  intro n
  induction n with
  | zero => intro h; omega
  | succ n ih =>
    intro h hp
    rw [vl, vl]
    by_cases c : a = n
    · rw [← c, eq a (Nat.le_refl a)]; omega
    · have := ih (by omega) (fun k hk => hp k (by omega))
      have := hp n (by omega)
      omega
theorem laysRow_t {s : SM} {n S W : Nat} (hn : n ≤ S) (h6 : S ≤ 6) (hr : rowOK S n s) (hs : LW S W (mA s 12)) : An (F_X12_laysRow s (nI n)) (fun s' => Fr [25] [24] [] s s' ∧ mI s' 25 = nI n ∧ LW n W (mA s' 24)) := by
  unfold F_X12_laysRow
  rw [nm_at, nm_at]
  refine lp_up (fun q u y => F_X12_laysRow_b7 (nI n) q u y) n (fun m y => Fr [25] [24] [] s y ∧ mI y 25 = nI n ∧ LW m W (mA y 24)) _ ?_ ?_ fu 0 _ (by omega) (by unfold fu; omega) ⟨(Fr.rf s).i 25 _ (by decide), by rw [q_ii, if_pos rfl], fun i hi => by omega⟩
  · intro q m y hm ⟨h1, h2, h3⟩ hK
    obtain ⟨v, hv, ev⟩ := hr m hm
    obtain ⟨l1, l2, l3⟩ := hs v hv
    have e33 : mA y 33 m = nI v := by rw [h1.2.1 33 (by decide)]; exact ev
    have e12 := h1.2.1 12 (by decide)
    show An (F_X12_laysRow_b7 (nI n) (q + 1) (nI m) y) _
    rw [F_X12_laysRow_b7]
    simp (disch := omega) only [e33, e12, and_true, true_and, and_false, false_and, or_true, true_or, or_false, false_or, not_true_eq_false, not_false_eq_true, nm_at, Option.bind_some, if_true, if_false, ↓k_m1, ↓k_m2, ↓k_m3, ↓k_m5, ↓k_m9, ↓k_m10, ↓k_mno, k_0, k_1, k_2, k_3, k_4, k_5, k_6, k_7, k_8, k_9, k_10, k_11, k_12, k_13, k_14, k_15, k_16, k_17, k_18, k_19, k_20, k_21, k_22, k_23, k_24, k_25, k_26, k_27, k_28, k_29, k_30, k_31, k_32, k_36, k_48, k_50, k_57, k_58, k_59, k_64, k_97, k_99, k_100, k_101, k_102, k_104, k_105, k_107, k_108, k_109, k_110, k_111, k_114, k_115, k_116, k_119, k_122, k_128, k_255, k_500, k_1000, k_1023, k_10000, k_100000, nI_add, nI_mul, nI_sub, nI_sub0, nI_leI, nI_ltI, nI_eq, nM_lt, nM_le, nM_nlt, nM_nle, nM_ne, nM_ne', nM_eq, q_ii, q_ia, q_ij, q_it, q_aa, q_ai, q_aj, q_at, q_jj, q_ji, q_ja, q_jt, q_tt, q_ti, q_ta, q_tj, u_at, uL_at, Nat.zero_mul, Nat.mul_zero, Nat.one_mul, Nat.mul_one, Nat.zero_add, Nat.add_zero, nI_toInt, agN, asN, agLN, asLN, atvN, setvN, if_pos, if_neg]
    refine hK _ ⟨((h1.a 24 _ (by decide)).a 24 _ (by decide)).a 24 _ (by decide), ?_, fun i hi => ?_⟩
    · simp (disch := omega) only [and_true, true_and, and_false, false_and, or_true, true_or, or_false, false_or, not_true_eq_false, not_false_eq_true, nm_at, Option.bind_some, if_true, if_false, ↓k_m1, ↓k_m2, ↓k_m3, ↓k_m5, ↓k_m9, ↓k_m10, ↓k_mno, k_0, k_1, k_2, k_3, k_4, k_5, k_6, k_7, k_8, k_9, k_10, k_11, k_12, k_13, k_14, k_15, k_16, k_17, k_18, k_19, k_20, k_21, k_22, k_23, k_24, k_25, k_26, k_27, k_28, k_29, k_30, k_31, k_32, k_36, k_48, k_50, k_57, k_58, k_59, k_64, k_97, k_99, k_100, k_101, k_102, k_104, k_105, k_107, k_108, k_109, k_110, k_111, k_114, k_115, k_116, k_119, k_122, k_128, k_255, k_500, k_1000, k_1023, k_10000, k_100000, nI_add, nI_mul, nI_sub, nI_sub0, nI_leI, nI_ltI, nI_eq, nM_lt, nM_le, nM_nlt, nM_nle, nM_ne, nM_ne', nM_eq, q_ii, q_ia, q_ij, q_it, q_aa, q_ai, q_aj, q_at, q_jj, q_ji, q_ja, q_jt, q_tt, q_ti, q_ta, q_tj, u_at, uL_at, Nat.zero_mul, Nat.mul_zero, Nat.one_mul, Nat.mul_one, Nat.zero_add, Nat.add_zero, nI_toInt, agN, asN, agLN, asLN, atvN, setvN, if_pos, if_neg]; exact h2
    · by_cases c : i = m
      · subst c
        simp (disch := omega) only [and_true, true_and, and_false, false_and, or_true, true_or, or_false, false_or, not_true_eq_false, not_false_eq_true, nm_at, Option.bind_some, if_true, if_false, ↓k_m1, ↓k_m2, ↓k_m3, ↓k_m5, ↓k_m9, ↓k_m10, ↓k_mno, k_0, k_1, k_2, k_3, k_4, k_5, k_6, k_7, k_8, k_9, k_10, k_11, k_12, k_13, k_14, k_15, k_16, k_17, k_18, k_19, k_20, k_21, k_22, k_23, k_24, k_25, k_26, k_27, k_28, k_29, k_30, k_31, k_32, k_36, k_48, k_50, k_57, k_58, k_59, k_64, k_97, k_99, k_100, k_101, k_102, k_104, k_105, k_107, k_108, k_109, k_110, k_111, k_114, k_115, k_116, k_119, k_122, k_128, k_255, k_500, k_1000, k_1023, k_10000, k_100000, nI_add, nI_mul, nI_sub, nI_sub0, nI_leI, nI_ltI, nI_eq, nM_lt, nM_le, nM_nlt, nM_nle, nM_ne, nM_ne', nM_eq, q_ii, q_ia, q_ij, q_it, q_aa, q_ai, q_aj, q_at, q_jj, q_ji, q_ja, q_jt, q_tt, q_ti, q_ta, q_tj, u_at, uL_at, Nat.zero_mul, Nat.mul_zero, Nat.one_mul, Nat.mul_one, Nat.zero_add, Nat.add_zero, nI_toInt, agN, asN, agLN, asLN, atvN, setvN, if_pos, if_neg]
        exact ⟨l1, l2, l3⟩
      · simp (disch := omega) only [and_true, true_and, and_false, false_and, or_true, true_or, or_false, false_or, not_true_eq_false, not_false_eq_true, nm_at, Option.bind_some, if_true, if_false, ↓k_m1, ↓k_m2, ↓k_m3, ↓k_m5, ↓k_m9, ↓k_m10, ↓k_mno, k_0, k_1, k_2, k_3, k_4, k_5, k_6, k_7, k_8, k_9, k_10, k_11, k_12, k_13, k_14, k_15, k_16, k_17, k_18, k_19, k_20, k_21, k_22, k_23, k_24, k_25, k_26, k_27, k_28, k_29, k_30, k_31, k_32, k_36, k_48, k_50, k_57, k_58, k_59, k_64, k_97, k_99, k_100, k_101, k_102, k_104, k_105, k_107, k_108, k_109, k_110, k_111, k_114, k_115, k_116, k_119, k_122, k_128, k_255, k_500, k_1000, k_1023, k_10000, k_100000, nI_add, nI_mul, nI_sub, nI_sub0, nI_leI, nI_ltI, nI_eq, nM_lt, nM_le, nM_nlt, nM_nle, nM_ne, nM_ne', nM_eq, q_ii, q_ia, q_ij, q_it, q_aa, q_ai, q_aj, q_at, q_jj, q_ji, q_ja, q_jt, q_tt, q_ti, q_ta, q_tj, u_at, uL_at, Nat.zero_mul, Nat.mul_zero, Nat.one_mul, Nat.mul_one, Nat.zero_add, Nat.add_zero, nI_toInt, agN, asN, agLN, asLN, atvN, setvN, if_pos, if_neg]
        exact h3 i (by omega)
  · intro q y ⟨h1, h2, h3⟩
    show An (F_X12_laysRow_b7 (nI n) (q + 1) (nI n) y) _
    rw [F_X12_laysRow_b7, if_pos (nI_le (Nat.le_refl n) (by omega))]
    exact An_some ⟨h1, h2, h3⟩
abbrev shA : List Nat := [24, 26, 27, 28, 29, 33]
theorem shortM_lp {t7 : S7} {t10 : S10} {t1 : S1} {S W F f n : Nat} {s0 : SM} {x2 x3 x4 : Int32} {K : Int32 → SM → Option (Int32 × SM)} (hM : MR t7 (mA s0 11)) (hW : WR t10 W (mA s0 9)) (hF : FR t1 F (mA s0 10)) (hf : f < F) (hn1 : 1 ≤ n) (hn : n ≤ S) (h6 : S ≤ 6) (h15 : mI s0 15 = nI S) (hs : LW S W (mA s0 12)) (hx4 : x4.toInt ≤ 5) (hK : ∀ y, Fr [25] shA [] s0 y → An (K (nI (n + 1)) y) (fun q => Fr [25] shA [] s0 q.2)) : ∀ fl y, 46656 - vl (fun k => cn (mA y 33 k)) n < fl → Fr [25] shA [] s0 y → rowOK S n y → An (F_X12_shortest_b64 (nI f) x2 x3 x4 K (fl + 1) (nI n) (nI 1) y) (fun q => Fr [25] shA [] s0 q.2) := by
  intro fl
  induction fl with
  | zero => intro y h; omega
  | succ fl ih =>
    intro y hfl hy hr
    rw [F_X12_shortest_b64, if_neg (show ¬ nI 1 = 0 from by decide)]
    obtain ⟨s1, a1, a2, a3, a4⟩ := laysRow_t (W := W) hn h6 hr (by rw [hy.2.1 12 (by decide)]; exact hs)
    rw [a1, Option.bind_some]
    have hy1 : Fr [25] shA [] s0 s1 := hy.tr (a2.wd (by decide) (by decide) (by decide))
    have hJ := JH_ok (t7 := t7) (t10 := t10) (t1 := t1) (s := s1) (f := f) (F := F) (W := W) (n := n) (r := mA s1 24) (sd := mA s1 31) (by rw [hy1.2.1 11 (by decide)]; exact hM) (by rw [hy1.2.1 9 (by decide)]; exact hW) (by rw [hy1.2.1 10 (by decide)]; exact hF) hf (by omega) a4 a3 (fun _ _ => rfl) (fun _ _ => rfl)
    obtain ⟨q5, b1, b2, b3, b4⟩ := lawM_t (by omega) hJ
    rw [b1, Option.bind_some]
    have hy2 : Fr [25] shA [] s0 q5.2 := hy1.tr (b3.wd (by decide) (by decide) (by decide))
    have r2 : mA q5.2 33 = mA y 33 := by rw [b3.2.1 33 (by decide), a2.2.1 33 (by decide)]
    have k124 : An (F_X12_shortest_b124 (nI f) x2 x3 x4 K (F_X12_shortest_b64 (nI f) x2 x3 x4 K (fl + 1)) (nI n) q5.2) (fun q => Fr [25] shA [] s0 q.2) := by
      unfold F_X12_shortest_b124
      have hr2 : rowOK S n q5.2 := fun k hk => by rw [r2]; exact hr k hk
      obtain ⟨g, g1, g2, g3⟩ := goesOn_t hn h6 ((hy2.1 15 (by decide)).trans h15) hr2
      rw [g1, Option.bind_some, nm_at]
      have hy3 : Fr [25] shA [] s0 g.2 := hy2.tr (g2.wd (by decide) (by decide) (by decide))
      rcases g3 with g3 | ⟨g3, g4, a, g5, g6, g7⟩
      · rw [g3, F_X12_shortest_b64, if_pos (show nI 0 = 0 from rfl), nm_at, nI_1]
        exact hK _ hy3
      · rw [g3]
        refine ih g.2 ?_ hy3 g4
        have l6 : ∀ k, k < n → cn (mA y 33 k) < 6 := fun k hk => by have := (Lb_cn (hr k hk) (by omega)).2; omega
        have l6g : ∀ k, k < n → cn (mA g.2 33 k) < 6 := fun k hk => by have := (Lb_cn (g4 k hk) (by omega)).2; omega
        have lt := vl_lt (p := fun k => cn (mA y 33 k)) (q := fun k => cn (mA g.2 33 k)) (a := a) (fun j hj => by show cn (mA y 33 j) = cn (mA g.2 33 j); rw [g6 j hj, r2]) (by show cn (mA y 33 a) < cn (mA g.2 33 a); rw [← r2]; exact g7) n g5 l6
        have bd := vl_bound (p := fun k => cn (mA g.2 33 k)) n l6g (by omega)
        have p6 : 6 ^ n ≤ 46656 := by
          have hx : n = 1 ∨ n = 2 ∨ n = 3 ∨ n = 4 ∨ n = 5 ∨ n = 6 := by omega
          rcases hx with rfl | rfl | rfl | rfl | rfl | rfl <;> decide
        omega
    refine An_if (fun _ => k124) (fun _ => ?_)
    have h25 : mI q5.2 25 = nI n := (b3.1 25 (by decide)).trans a3
    refine An_bind (boundM_t a4 (by omega) h25 (fun j hj => by rw [b3.2.1 24 (by decide)]) b4) fun q6 _ => An_if (fun _ => ?_) (fun _ => k124)
    refine An_if (fun c1 => An_if (fun _ => An_some hy2) (fun c2 => ?_)) (fun _ => An_some hy2)
    rcases i_cases x4 with hx | ⟨k, hk, rfl⟩
    · exact absurd c1 (by rw [i_le, pz0]; rw [i_lt, pz0] at hx; omega)
    · rw [nI_toInt hk] at hx4
      rw [agN (by omega) (by omega)]
      exact An_some hy2
/-- shortest: both answer -/
theorem op_short0 {st : SX} {ms : SM} (h : Inv st ms) (a1 a2 a3 a4 : Int32) : ∃ (r r2 : Int32) (st2 : SX) (ms2 : SM), X_shortest st a1 a2 a3 a4 = some (r, st2) ∧ M_shortest ms a1 a2 a3 a4 = some (r2, ms2) ∧ Inv st2 ms2 := by
  obtain ⟨o, tx, ve, tr, me, gu, ch, row, i1, i2, t7, t10, t1, tp, ts, p7, p10, p1, pp, ps⟩ := st
  obtain ⟨W, F, P, S, T, ⟨hW, hF, hP, hS, hT⟩, hTX, hWR, hFR, hMR, hLP, hLS, hI1, hI2, hMo, hTr⟩ := (show IV o tx tr row i1 i2 t7 t10 t1 tp ts pp ps ms from h)
  have hP8 := hLP.1
  have hW16 := hWR.1
  have hF2 := hFR.1
  have hS6 := hLS.1
  have hs := hLP.2.2.1.1
  have hX : ∃ r c2 row2, X_shortest (o, tx, ve, tr, me, gu, ch, row, i1, i2, t7, t10, t1, tp, ts, p7, p10, p1, pp, ps) a1 a2 a3 a4 = some (r, (o, tx, ve, tr, me, gu, c2, row2, i1, i2, t7, t10, t1, tp, ts, p7, p10, p1, pp, ps)) ∧ s4_most row2 = nI 6 := by
    rcases shortX_tot (o := o) (t7 := t7) (t1 := t1) (ts := ts) (w := t10) (S := S) (F := F) hLS.2.2.1.1 hS6 hFR.2.1 hF2 ch hMo.2.1 a1 a2 a3 a4 with ⟨q, q1, q2⟩ | ⟨q0, q, q1, q2⟩
    · exact ⟨q.1, q.2.1, q.2.2, by unfold X_shortest; simp only [q1], q2⟩
    · exact ⟨q.1, q.2.1, q.2.2, by unfold X_shortest; simp only [q0, q1]; rfl, q2⟩
  have hM : An (F_X12_shortest ms a1 a2 a3 a4) (fun q => Fr scI scA scJ ms q.2) := by
    unfold F_X12_shortest
    rw [nm_at, isForm_t (s := mIs ms 0 0) hF (by omega), Option.bind_some, if10]
    by_cases c1 : (0 ≤ a1.toInt ∧ a1.toInt < F) ∧ 0 ≤ a2.toInt ∧ a2.toInt < 2
    · rw [if_pos c1]
      obtain ⟨f, hf, rfl⟩ := Lb.of c1.1
      obtain ⟨d, hd, rfl⟩ := Lb.of (n := 2) c1.2
      rcases in_tot a3 0 1023 with e | e
      · rw [e, Option.bind_some, if_pos rfl]; exact An_some (fr0 ms)
      · rw [e, Option.bind_some, if_neg (show ¬ (1 : Int32) = 0 from by decide)]
        unfold F_X12_in
        by_cases c2 : a4 < -1
        · rw [if_pos c2, Option.bind_some, if_pos rfl]; exact An_some (fr0 ms)
        · rw [if_neg c2]
          by_cases c3 : 5 < a4
          · rw [if_pos c3, Option.bind_some, if_pos rfl]; exact An_some (fr0 ms)
          · rw [if_neg c3, Option.bind_some, if_neg (show ¬ (1 : Int32) = 0 from by decide)]
            have h5 : a4.toInt ≤ 5 := by
              rw [i_lt, show (5 : Int32).toInt = 5 from by decide] at c3
              omega
            refine An_bind (hears_t (d := d) (by omega)) fun s1 ⟨b1, b2⟩ => ?_
            rw [nm_at]
            have b0 : Fr scI scA scJ ms s1 := (fr0 ms).tr (b1.wd (by decide) (by decide) (by decide))
            have e15 : mI s1 15 = nI S := (b0.1 15 (by decide)).trans hS
            have e12 := b0.2.1 12 (by decide)
            have main : ∀ fl n y, n ≤ S → S - n < fl → Fr [25] shA [] s1 y → An (F_X12_shortest_b45 (nI f) (nI d) a3 a4 fl (nI (n + 1)) y) (fun q => Fr [25] shA [] s1 q.2) := by
              intro fl
              induction fl with
              | zero => intro n y _ h; omega
              | succ fl ih =>
                intro n y hn hfl hy
                rw [F_X12_shortest_b45, (hy.1 15 (by decide)).trans e15]
                by_cases g : n = S
                · rw [if_pos (nI_lt (by omega) (by omega))]
                  exact An_some hy
                · rw [if_neg (nI_nlt (by omega) (by omega))]
                  obtain ⟨s2, f1, f2, f3, f4⟩ := fills_t (s := y) (a := 0) (n := n + 1) (by omega) (by omega)
                  rw [show F_X12_fills y 0 (nI (n + 1)) = some s2 from f1, Option.bind_some, nm_at]
                  have hy2 : Fr [25] shA [] s1 s2 := hy.tr (f2.wd (by decide) (by decide) (by decide))
                  obtain ⟨u, eu⟩ : ∃ u, fu = u + 1 := ⟨fu - 1, by unfold fu; omega⟩
                  rw [eu]
                  refine shortM_lp (t7 := t7) (t10 := t10) (t1 := t1) (S := S) (W := W) (F := F) (f := f) (n := n + 1) (s0 := s1) (by rw [b0.2.1 11 (by decide)]; exact hMR) (by rw [b0.2.1 9 (by decide)]; exact hWR) (by rw [b0.2.1 10 (by decide)]; exact hFR) hf (by omega) (by omega) hS6 e15 (by rw [e12]; exact hLS.2.2.2) h5 (fun y2 h2 => ih (n + 1) y2 (by omega) (by omega) h2) u s2 (by unfold fu at eu; omega) hy2 (fun k hk => (f4 k (by omega) hk).mono (by omega))
            refine An_mono (main fu 0 s1 (by omega) (by unfold fu; omega) (Fr.rf s1)) fun q hq => b0.tr (hq.wd (by decide) (by decide) (by decide))
    · rw [if_neg c1]; exact An_some (fr0 ms)
  obtain ⟨r, c2, row2, x1, x2⟩ := hX
  obtain ⟨q, q1, q2⟩ := hM
  exact ⟨r, q.1, _, q.2, x1, by unfold M_shortest; rw [q1]; rfl, IV.fr (show IV o tx tr row i1 i2 t7 t10 t1 tp ts pp ps ms from h) q2 hMo.1 x2 fun _ _ x => x⟩
