/-! ===== judged: what letters, fits and rhymes make of lines ===== -/
/-- the nearest line ahead of n with the letter l that stands: its number and one; 0: none -/
def nearL (st L : Nat → Nat) (l : Nat) : Nat → Nat
  | 0 => 0
  | j + 1 => if st j ≠ 0 ∧ L j = l then j + 1 else nearL st L l j
theorem near_cg {st st2 L : Nat → Nat} {l : Nat} : ∀ {n : Nat}, (∀ j, j < n → st j = st2 j) → nearL st L l n = nearL st2 L l n := by
  intro n
  induction n with
  | zero => intro _; rfl
  | succ n ih =>
    intro h
    rw [nearL, nearL, h n (by omega), ih fun j hj => h j (by omega)]
theorem near_le {st L : Nat → Nat} {l : Nat} : ∀ n : Nat, nearL st L l n ≤ n := by
  intro n
  induction n with
  | zero => exact Nat.le_refl 0
  | succ n ih =>
    rw [nearL]
    by_cases h : st n ≠ 0 ∧ L n = l
    · rw [if_pos h]; omega
    · rw [if_neg h]; omega
theorem near_at {st L : Nat → Nat} {l : Nat} : ∀ {n j : Nat}, nearL st L l n = j + 1 → j < n ∧ st j ≠ 0 ∧ L j = l := by
  intro n
  induction n with
  | zero => intro j h; rw [nearL] at h; omega
  | succ n ih =>
    intro j h
    rw [nearL] at h
    by_cases c : st n ≠ 0 ∧ L n = l
    · rw [if_pos c] at h
      obtain rfl : n = j := by omega
      exact ⟨by omega, c⟩
    · rw [if_neg c] at h
      have := ih h
      exact ⟨by omega, this.2⟩
def jval (L : Nat → Nat) (ok : Nat → Bool) (rh : Nat → Nat → Bool) (st : Nat → Nat) (i : Nat) : Nat :=
  if ok i = true then (if nearL st L (L i) i = 0 then 1 else if rh (nearL st L (L i) i - 1) i = true then 2 else 0) else 0
def jst (L : Nat → Nat) (ok : Nat → Bool) (rh : Nat → Nat → Bool) : Nat → Nat → Nat
  | 0 => fun _ => 0
  | i + 1 => fun j => if j = i then jval L ok rh (jst L ok rh i) i else jst L ok rh i j
def js (L : Nat → Nat) (ok : Nat → Bool) (rh : Nat → Nat → Bool) (j : Nat) : Nat := jst L ok rh (j + 1) j
/-- the anchor's number and one -/
def ja (L : Nat → Nat) (ok : Nat → Bool) (rh : Nat → Nat → Bool) (i : Nat) : Nat := nearL (js L ok rh) L (L i) i
theorem jst_lt {L : Nat → Nat} {ok : Nat → Bool} {rh : Nat → Nat → Bool} : ∀ {i j : Nat}, j < i → jst L ok rh i j = js L ok rh j := by
  intro i
  induction i with
  | zero => intro j h; omega
  | succ i ih =>
    intro j h
    by_cases e : j = i
    · subst e; rfl
    · rw [jst]; simp only [if_neg e]; exact ih (by omega)
theorem js_eq (L : Nat → Nat) (ok : Nat → Bool) (rh : Nat → Nat → Bool) (i : Nat) : js L ok rh i = if ok i = true then (if ja L ok rh i = 0 then 1 else if rh (ja L ok rh i - 1) i = true then 2 else 0) else 0 := by
  unfold js
  rw [jst]; simp only [if_true]
  unfold jval
  rw [near_cg (st2 := js L ok rh) (fun j hj => jst_lt hj)]
  rfl
theorem ja_at {L : Nat → Nat} {ok : Nat → Bool} {rh : Nat → Nat → Bool} {i j : Nat} (h : ja L ok rh i = j + 1) : j < i ∧ js L ok rh j ≠ 0 ∧ L j = L i := near_at h
theorem js_ja {L : Nat → Nat} {ok : Nat → Bool} {rh : Nat → Nat → Bool} {i : Nat} (h : js L ok rh i = 2) : ∃ j, ja L ok rh i = j + 1 ∧ j < i ∧ js L ok rh j ≠ 0 ∧ L j = L i := by
  rw [js_eq] at h
  by_cases c : ja L ok rh i = 0
  · rw [if_pos c] at h
    by_cases d : ok i = true
    · rw [if_pos d] at h; omega
    · rw [if_neg d] at h; omega
  · obtain ⟨j, hj⟩ : ∃ j, ja L ok rh i = j + 1 := ⟨ja L ok rh i - 1, by omega⟩
    exact ⟨j, hj, ja_at hj⟩
theorem js_le (L : Nat → Nat) (ok : Nat → Bool) (rh : Nat → Nat → Bool) (i : Nat) : js L ok rh i ≤ 2 := by
  rw [js_eq]
  split
  · split
    · omega
    · split <;> omega
  · omega
/-- line j binds, as far as the lines ahead of i tell -/
def bnd (L : Nat → Nat) (ok : Nat → Bool) (rh : Nat → Nat → Bool) (i j : Nat) : Prop := (j < i ∧ js L ok rh j = 2) ∨ ∃ k, k < i ∧ js L ok rh k = 2 ∧ ja L ok rh k = j + 1
theorem bnd_lt {L : Nat → Nat} {ok : Nat → Bool} {rh : Nat → Nat → Bool} {i j : Nat} (h : bnd L ok rh i j) : j < i := by
  rcases h with h | ⟨k, h1, h2, h3⟩
  · exact h.1
  · have := ja_at h3; omega
def encA (a : Nat) : Int32 := if a = 0 then nM 1 else nI (a - 1)
/-! the class -/
theorem fill_t {n : Nat} (hn : n < 1000) (f : Nat → Int32) (x : Int32) : An (F_J7_fill_53178 n f x) (fun g => ∀ j, j < n → g j = x) := by
  unfold F_J7_fill_53178
  simp only [nm_at]
  refine lp_up (fun q v (g : Nat → Int32) => F_J7_fill_53178_b5 n x q v (nI n) g) n (fun m g => ∀ j, j < m → g j = x) _ ?_ ?_ fu 0 f (by omega) (by unfold fu; omega) (fun j h => by omega)
  · intro q m g hm hI hk
    show An (F_J7_fill_53178_b5 n x (q + 1) (nI m) (nI n) g) _
    rw [F_J7_fill_53178_b5]
    simp (disch := omega) only [nm_at, Option.bind_some, if_true, if_false, ↓k_m1, ↓k_m2, ↓k_m3, ↓k_m5, ↓k_m9, ↓k_m10, ↓k_mno, k_0, k_1, k_2, k_3, k_4, k_5, k_6, k_7, k_8, k_9, k_10, k_11, k_12, k_13, k_14, k_15, k_16, k_17, k_18, k_19, k_20, k_21, k_22, k_23, k_24, k_25, k_26, k_27, k_28, k_29, k_30, k_31, k_32, k_36, k_48, k_50, k_57, k_58, k_59, k_64, k_97, k_99, k_100, k_101, k_102, k_104, k_105, k_107, k_108, k_109, k_110, k_111, k_114, k_115, k_116, k_119, k_122, k_128, k_255, k_500, k_1000, k_1023, k_10000, k_100000, nI_add, nI_mul, nI_sub, nI_sub0, nI_leI, nI_ltI, nI_eq, nM_lt, nM_le, nM_nlt, nM_nle, nM_ne, nM_ne', nM_eq, q_ii, q_ia, q_ij, q_it, q_aa, q_ai, q_aj, q_at, q_jj, q_ji, q_ja, q_jt, q_tt, q_ti, q_ta, q_tj, u_at, uL_at, Nat.zero_mul, Nat.mul_zero, Nat.one_mul, Nat.mul_one, Nat.zero_add, Nat.add_zero, nI_toInt, agN, asN, agLN, asLN, atvN, setvN, if_pos, if_neg]
    refine hk _ fun j hj => ?_
    by_cases e : j = m
    · simp (disch := omega) only [e, nm_at, Option.bind_some, if_true, if_false, ↓k_m1, ↓k_m2, ↓k_m3, ↓k_m5, ↓k_m9, ↓k_m10, ↓k_mno, k_0, k_1, k_2, k_3, k_4, k_5, k_6, k_7, k_8, k_9, k_10, k_11, k_12, k_13, k_14, k_15, k_16, k_17, k_18, k_19, k_20, k_21, k_22, k_23, k_24, k_25, k_26, k_27, k_28, k_29, k_30, k_31, k_32, k_36, k_48, k_50, k_57, k_58, k_59, k_64, k_97, k_99, k_100, k_101, k_102, k_104, k_105, k_107, k_108, k_109, k_110, k_111, k_114, k_115, k_116, k_119, k_122, k_128, k_255, k_500, k_1000, k_1023, k_10000, k_100000, nI_add, nI_mul, nI_sub, nI_sub0, nI_leI, nI_ltI, nI_eq, nM_lt, nM_le, nM_nlt, nM_nle, nM_ne, nM_ne', nM_eq, q_ii, q_ia, q_ij, q_it, q_aa, q_ai, q_aj, q_at, q_jj, q_ji, q_ja, q_jt, q_tt, q_ti, q_ta, q_tj, u_at, uL_at, Nat.zero_mul, Nat.mul_zero, Nat.one_mul, Nat.mul_one, Nat.zero_add, Nat.add_zero, nI_toInt, agN, asN, agLN, asLN, atvN, setvN, if_pos, if_neg]
    · simp (disch := omega) only [nm_at, Option.bind_some, if_true, if_false, ↓k_m1, ↓k_m2, ↓k_m3, ↓k_m5, ↓k_m9, ↓k_m10, ↓k_mno, k_0, k_1, k_2, k_3, k_4, k_5, k_6, k_7, k_8, k_9, k_10, k_11, k_12, k_13, k_14, k_15, k_16, k_17, k_18, k_19, k_20, k_21, k_22, k_23, k_24, k_25, k_26, k_27, k_28, k_29, k_30, k_31, k_32, k_36, k_48, k_50, k_57, k_58, k_59, k_64, k_97, k_99, k_100, k_101, k_102, k_104, k_105, k_107, k_108, k_109, k_110, k_111, k_114, k_115, k_116, k_119, k_122, k_128, k_255, k_500, k_1000, k_1023, k_10000, k_100000, nI_add, nI_mul, nI_sub, nI_sub0, nI_leI, nI_ltI, nI_eq, nM_lt, nM_le, nM_nlt, nM_nle, nM_ne, nM_ne', nM_eq, q_ii, q_ia, q_ij, q_it, q_aa, q_ai, q_aj, q_at, q_jj, q_ji, q_ja, q_jt, q_tt, q_ti, q_ta, q_tj, u_at, uL_at, Nat.zero_mul, Nat.mul_zero, Nat.one_mul, Nat.mul_one, Nat.zero_add, Nat.add_zero, nI_toInt, agN, asN, agLN, asLN, atvN, setvN, if_pos, if_neg]; exact hI j (by omega)
  · intro q g hI
    show An (F_J7_fill_53178_b5 n x (q + 1) (nI n) (nI n) g) _
    rw [F_J7_fill_53178_b5]
    simp (disch := omega) only [nm_at, Option.bind_some, if_true, if_false, ↓k_m1, ↓k_m2, ↓k_m3, ↓k_m5, ↓k_m9, ↓k_m10, ↓k_mno, k_0, k_1, k_2, k_3, k_4, k_5, k_6, k_7, k_8, k_9, k_10, k_11, k_12, k_13, k_14, k_15, k_16, k_17, k_18, k_19, k_20, k_21, k_22, k_23, k_24, k_25, k_26, k_27, k_28, k_29, k_30, k_31, k_32, k_36, k_48, k_50, k_57, k_58, k_59, k_64, k_97, k_99, k_100, k_101, k_102, k_104, k_105, k_107, k_108, k_109, k_110, k_111, k_114, k_115, k_116, k_119, k_122, k_128, k_255, k_500, k_1000, k_1023, k_10000, k_100000, nI_add, nI_mul, nI_sub, nI_sub0, nI_leI, nI_ltI, nI_eq, nM_lt, nM_le, nM_nlt, nM_nle, nM_ne, nM_ne', nM_eq, q_ii, q_ia, q_ij, q_it, q_aa, q_ai, q_aj, q_at, q_jj, q_ji, q_ja, q_jt, q_tt, q_ti, q_ta, q_tj, u_at, uL_at, Nat.zero_mul, Nat.mul_zero, Nat.one_mul, Nat.mul_one, Nat.zero_add, Nat.add_zero, nI_toInt, agN, asN, agLN, asLN, atvN, setvN, if_pos, if_neg]
    exact An_some hI
/-- what a verdict holds of n lines -/
def VV (L : Nat → Nat) (ok : Nat → Bool) (rh : Nat → Nat → Bool) (n i : Nat) (z : S9) : Prop := s9_size z = nI n ∧ (∀ j, j < i → s9_states z j = nI (js L ok rh j) ∧ s9_anchors z j = if js L ok rh j = 2 then nI (ja L ok rh j - 1) else nM 1) ∧ ∀ j, j < 32 → (tb (s9_binding z) j = true ↔ bnd L ok rh i j)
theorem enter_t {L : Nat → Nat} {ok : Nat → Bool} {rh : Nat → Nat → Bool} {n i : Nat} {z : S9} (hi : i < n) (hn : n ≤ 8) (hL : L i < 8) (h : VV L ok rh n i z) (hl : ∀ l, l < 8 → s9_latest z l = encA (nearL (js L ok rh) L l i)) {Q : S9 → Prop} {K : S9 → Option S9} (hk : ∀ z', VV L ok rh n (i + 1) z' → (∀ l, l < 8 → s9_latest z' l = encA (nearL (js L ok rh) L l (i + 1))) → An (K z') Q) : An ((F_X9_enter z (nI i) (nI (L i)) (nI (js L ok rh i)) (encA (ja L ok rh i))).bind K) Q := by
  obtain ⟨h1, h2, h3⟩ := h
  have hle := js_le L ok rh i
  have hz : js L ok rh i = 0 ∨ js L ok rh i = 1 ∨ js L ok rh i = 2 := by omega
  have lat : ∀ z' : S9, s9_latest z' = (if js L ok rh i = 0 then s9_latest z else upd (s9_latest z) (L i) (nI i)) → ∀ l, l < 8 → s9_latest z' l = encA (nearL (js L ok rh) L l (i + 1)) := by
    intro z' e l hl8
    rw [e, nearL]
    by_cases c : js L ok rh i = 0
    · rw [if_pos c, if_neg (fun q => q.1 c)]; exact hl l hl8
    · rw [if_neg c, u_at]
      by_cases d : l = L i
      · rw [if_pos d, if_pos ⟨c, d.symm⟩]; rfl
      · rw [if_neg d, if_neg (fun q => d q.2.symm)]; exact hl l hl8
  have st : ∀ (z' : S9) (a : Int32), s9_states z' = upd (s9_states z) i (nI (js L ok rh i)) → s9_anchors z' = upd (s9_anchors z) i a → a = (if js L ok rh i = 2 then nI (ja L ok rh i - 1) else nM 1) → ∀ j, j < i + 1 → s9_states z' j = nI (js L ok rh j) ∧ s9_anchors z' j = if js L ok rh j = 2 then nI (ja L ok rh j - 1) else nM 1 := by
    intro z' a e1 e2 e3 j hj
    rw [e1, e2, u_at, u_at]
    by_cases c : j = i
    · rw [if_pos c, if_pos c, c, e3]; exact ⟨rfl, rfl⟩
    · rw [if_neg c, if_neg c]; exact h2 j (by omega)
  rcases hz with e | e | e
  · unfold F_X9_enter F_X9_enter_b25 F_X9_enter_b41
    rw [e]
    simp (disch := omega) only [set_total, nm_at, Option.bind_some, if_true, if_false, ↓k_m1, ↓k_m2, ↓k_m3, ↓k_m5, ↓k_m9, ↓k_m10, ↓k_mno, k_0, k_1, k_2, k_3, k_4, k_5, k_6, k_7, k_8, k_9, k_10, k_11, k_12, k_13, k_14, k_15, k_16, k_17, k_18, k_19, k_20, k_21, k_22, k_23, k_24, k_25, k_26, k_27, k_28, k_29, k_30, k_31, k_32, k_36, k_48, k_50, k_57, k_58, k_59, k_64, k_97, k_99, k_100, k_101, k_102, k_104, k_105, k_107, k_108, k_109, k_110, k_111, k_114, k_115, k_116, k_119, k_122, k_128, k_255, k_500, k_1000, k_1023, k_10000, k_100000, nI_add, nI_mul, nI_sub, nI_sub0, nI_leI, nI_ltI, nI_eq, nM_lt, nM_le, nM_nlt, nM_nle, nM_ne, nM_ne', nM_eq, q_ii, q_ia, q_ij, q_it, q_aa, q_ai, q_aj, q_at, q_jj, q_ji, q_ja, q_jt, q_tt, q_ti, q_ta, q_tj, u_at, uL_at, Nat.zero_mul, Nat.mul_zero, Nat.one_mul, Nat.mul_one, Nat.zero_add, Nat.add_zero, nI_toInt, agN, asN, agLN, asLN, atvN, setvN, if_pos, if_neg]
    refine hk _ ⟨h1, ?_, ?_⟩ (lat _ (by rw [if_pos e]; rfl))
    · refine st _ (nM 1) (by rw [e]; rfl) rfl (by rw [e, if_neg (by omega)])
    · intro j hj
      show tb (s9_binding z) j = true ↔ _
      rw [h3 j hj]
      unfold bnd
      constructor
      · rintro (q | ⟨k, q⟩)
        · exact Or.inl ⟨by omega, q.2⟩
        · exact Or.inr ⟨k, by omega, q.2⟩
      · rintro (q | ⟨k, q1, q2, q3⟩)
        · by_cases d : j = i
          · rw [d] at q; omega
          · exact Or.inl ⟨by omega, q.2⟩
        · by_cases d : k = i
          · rw [d] at q2; omega
          · exact Or.inr ⟨k, by omega, q2, q3⟩
  · unfold F_X9_enter F_X9_enter_b25 F_X9_enter_b41
    rw [e]
    simp (disch := omega) only [set_total, nm_at, Option.bind_some, if_true, if_false, ↓k_m1, ↓k_m2, ↓k_m3, ↓k_m5, ↓k_m9, ↓k_m10, ↓k_mno, k_0, k_1, k_2, k_3, k_4, k_5, k_6, k_7, k_8, k_9, k_10, k_11, k_12, k_13, k_14, k_15, k_16, k_17, k_18, k_19, k_20, k_21, k_22, k_23, k_24, k_25, k_26, k_27, k_28, k_29, k_30, k_31, k_32, k_36, k_48, k_50, k_57, k_58, k_59, k_64, k_97, k_99, k_100, k_101, k_102, k_104, k_105, k_107, k_108, k_109, k_110, k_111, k_114, k_115, k_116, k_119, k_122, k_128, k_255, k_500, k_1000, k_1023, k_10000, k_100000, nI_add, nI_mul, nI_sub, nI_sub0, nI_leI, nI_ltI, nI_eq, nM_lt, nM_le, nM_nlt, nM_nle, nM_ne, nM_ne', nM_eq, q_ii, q_ia, q_ij, q_it, q_aa, q_ai, q_aj, q_at, q_jj, q_ji, q_ja, q_jt, q_tt, q_ti, q_ta, q_tj, u_at, uL_at, Nat.zero_mul, Nat.mul_zero, Nat.one_mul, Nat.mul_one, Nat.zero_add, Nat.add_zero, nI_toInt, agN, asN, agLN, asLN, atvN, setvN, if_pos, if_neg]
    refine hk _ ⟨h1, ?_, ?_⟩ (lat _ (by rw [if_neg (by omega)]; rfl))
    · refine st _ (nM 1) (by rw [e]; rfl) rfl (by rw [e, if_neg (by omega)])
    · intro j hj
      show tb (s9_binding z) j = true ↔ _
      rw [h3 j hj]
      unfold bnd
      constructor
      · rintro (q | ⟨k, q⟩)
        · exact Or.inl ⟨by omega, q.2⟩
        · exact Or.inr ⟨k, by omega, q.2⟩
      · rintro (q | ⟨k, q1, q2, q3⟩)
        · by_cases d : j = i
          · rw [d] at q; omega
          · exact Or.inl ⟨by omega, q.2⟩
        · by_cases d : k = i
          · rw [d] at q2; omega
          · exact Or.inr ⟨k, by omega, q2, q3⟩
  · obtain ⟨a, ea, hai, -⟩ := js_ja e
    have ee : encA (ja L ok rh i) = nI a := by unfold encA; rw [ea, if_neg (by omega)]; exact congrArg nI (by omega)
    unfold F_X9_enter F_X9_enter_b25 F_X9_enter_b41
    rw [e, ee]
    simp (disch := omega) only [set_total, nm_at, Option.bind_some, if_true, if_false, ↓k_m1, ↓k_m2, ↓k_m3, ↓k_m5, ↓k_m9, ↓k_m10, ↓k_mno, k_0, k_1, k_2, k_3, k_4, k_5, k_6, k_7, k_8, k_9, k_10, k_11, k_12, k_13, k_14, k_15, k_16, k_17, k_18, k_19, k_20, k_21, k_22, k_23, k_24, k_25, k_26, k_27, k_28, k_29, k_30, k_31, k_32, k_36, k_48, k_50, k_57, k_58, k_59, k_64, k_97, k_99, k_100, k_101, k_102, k_104, k_105, k_107, k_108, k_109, k_110, k_111, k_114, k_115, k_116, k_119, k_122, k_128, k_255, k_500, k_1000, k_1023, k_10000, k_100000, nI_add, nI_mul, nI_sub, nI_sub0, nI_leI, nI_ltI, nI_eq, nM_lt, nM_le, nM_nlt, nM_nle, nM_ne, nM_ne', nM_eq, q_ii, q_ia, q_ij, q_it, q_aa, q_ai, q_aj, q_at, q_jj, q_ji, q_ja, q_jt, q_tt, q_ti, q_ta, q_tj, u_at, uL_at, Nat.zero_mul, Nat.mul_zero, Nat.one_mul, Nat.mul_one, Nat.zero_add, Nat.add_zero, nI_toInt, agN, asN, agLN, asLN, atvN, setvN, if_pos, if_neg]
    refine hk _ ⟨h1, ?_, ?_⟩ (lat _ (by rw [if_neg (by omega)]; rfl))
    · refine st _ (nI a) (by rw [e]; rfl) rfl (by rw [e, if_pos rfl, ea]; exact congrArg nI (by omega))
    · intro j hj
      show tb (s9_binding z ||| (1 <<< (nI i &&& 31) ||| 1 <<< (nI a &&& 31))) j = true ↔ _
      rw [tb_or, tb_or, tb_nI (by omega) j hj, tb_nI (by omega) j hj]
      simp only [Bool.or_eq_true, decide_eq_true_eq]
      rw [h3 j hj]
      unfold bnd
      constructor
      · rintro ((q | ⟨k, q⟩) | q | q)
        · exact Or.inl ⟨by omega, q.2⟩
        · exact Or.inr ⟨k, by omega, q.2⟩
        · exact Or.inl ⟨by omega, by rw [q]; exact e⟩
        · exact Or.inr ⟨i, by omega, e, by rw [q]; exact ea⟩
      · rintro (q | ⟨k, q1, q2, q3⟩)
        · by_cases d : j = i
          · exact Or.inr (Or.inl d)
          · exact Or.inl (Or.inl ⟨by omega, q.2⟩)
        · by_cases d : k = i
          · rw [d, ea] at q3
            exact Or.inr (Or.inr (by omega))
          · exact Or.inl (Or.inr ⟨k, by omega, q2, q3⟩)
theorem judge_t {L : Nat → Nat} {ok : Nat → Bool} {rh : Nat → Nat → Bool} {n f : Nat} (hn : n ≤ 8) (t7 : S7) (p : S4) (v : S9) (t1 : S1) (t10 : S10) (x4 : Int32) (hp : s4_size p = nI n)
    (hL : ∀ i, i < n → F_X1_letter t1 (nI f) (nI i) = some (nI (L i)) ∧ L i < 8)
    (hk : ∀ i, i < n → F_X7_fits t7 t10 (nI (L i)) (s4_words p i) (s4_befores p i) = some (if ok i = true then 1 else 0))
    (hr : ∀ a i, a < i → i < n → F_X10_rhyme t10 x4 (s4_words p a) (s4_words p i) = some (if rh a i = true then 1 else 0)) :
    An (F_X9_judge t7 p v t1 t10 (nI f) x4) (VV L ok rh n n) := by
  unfold F_X9_judge F_X4_size
  simp only [Option.bind_some, nm_at]
  refine An_bind (fill_t (by omega) _ _) fun g hg => ?_
  refine lp_up (fun q v z => F_X9_judge_b24 t7 p t1 t10 (nI f) x4 q v z) n (fun i z => VV L ok rh n i z ∧ ∀ l, l < 8 → s9_latest z l = encA (nearL (js L ok rh) L l i)) _ ?_ ?_ fu 0 _ (by omega) (by unfold fu; omega) ⟨⟨hp, fun j h => by omega, fun j hj => ?_⟩, fun l hl => ?_⟩
  · intro q i z hi ⟨hI, hl⟩ hK
    obtain ⟨l1, l2⟩ := hL i hi
    show An (F_X9_judge_b24 t7 p t1 t10 (nI f) x4 (q + 1) (nI i) z) _
    rw [F_X9_judge_b24, hI.1]
    simp (disch := omega) only [l1, at_total, wordAt_t, beforeAt_t, hk i hi, nm_at, Option.bind_some, if_true, if_false, ↓k_m1, ↓k_m2, ↓k_m3, ↓k_m5, ↓k_m9, ↓k_m10, ↓k_mno, k_0, k_1, k_2, k_3, k_4, k_5, k_6, k_7, k_8, k_9, k_10, k_11, k_12, k_13, k_14, k_15, k_16, k_17, k_18, k_19, k_20, k_21, k_22, k_23, k_24, k_25, k_26, k_27, k_28, k_29, k_30, k_31, k_32, k_36, k_48, k_50, k_57, k_58, k_59, k_64, k_97, k_99, k_100, k_101, k_102, k_104, k_105, k_107, k_108, k_109, k_110, k_111, k_114, k_115, k_116, k_119, k_122, k_128, k_255, k_500, k_1000, k_1023, k_10000, k_100000, nI_add, nI_mul, nI_sub, nI_sub0, nI_leI, nI_ltI, nI_eq, nM_lt, nM_le, nM_nlt, nM_nle, nM_ne, nM_ne', nM_eq, q_ii, q_ia, q_ij, q_it, q_aa, q_ai, q_aj, q_at, q_jj, q_ji, q_ja, q_jt, q_tt, q_ti, q_ta, q_tj, u_at, uL_at, Nat.zero_mul, Nat.mul_zero, Nat.one_mul, Nat.mul_one, Nat.zero_add, Nat.add_zero, nI_toInt, agN, asN, agLN, asLN, atvN, setvN, if_pos, if_neg]
    rw [hl _ l2]
    have en : ∀ (s : Nat), s = js L ok rh i → An (F_X9_judge_b118 t7 p t1 t10 (nI f) x4 (F_X9_judge_b24 t7 p t1 t10 (nI f) x4 q) (nI i) (nI (L i)) (encA (nearL (js L ok rh) L (L i) i)) (nI s) z) (VV L ok rh n n) := by
      intro s hs
      unfold F_X9_judge_b118
      rw [hs]
      refine enter_t hi hn l2 hI hl fun z' h1 h2 => ?_
      simp (disch := omega) only [nm_at, Option.bind_some, if_true, if_false, ↓k_m1, ↓k_m2, ↓k_m3, ↓k_m5, ↓k_m9, ↓k_m10, ↓k_mno, k_0, k_1, k_2, k_3, k_4, k_5, k_6, k_7, k_8, k_9, k_10, k_11, k_12, k_13, k_14, k_15, k_16, k_17, k_18, k_19, k_20, k_21, k_22, k_23, k_24, k_25, k_26, k_27, k_28, k_29, k_30, k_31, k_32, k_36, k_48, k_50, k_57, k_58, k_59, k_64, k_97, k_99, k_100, k_101, k_102, k_104, k_105, k_107, k_108, k_109, k_110, k_111, k_114, k_115, k_116, k_119, k_122, k_128, k_255, k_500, k_1000, k_1023, k_10000, k_100000, nI_add, nI_mul, nI_sub, nI_sub0, nI_leI, nI_ltI, nI_eq, nM_lt, nM_le, nM_nlt, nM_nle, nM_ne, nM_ne', nM_eq, q_ii, q_ia, q_ij, q_it, q_aa, q_ai, q_aj, q_at, q_jj, q_ji, q_ja, q_jt, q_tt, q_ti, q_ta, q_tj, u_at, uL_at, Nat.zero_mul, Nat.mul_zero, Nat.one_mul, Nat.mul_one, Nat.zero_add, Nat.add_zero, nI_toInt, agN, asN, agLN, asLN, atvN, setvN, if_pos, if_neg]
      exact hK z' ⟨h1, h2⟩
    have e := js_eq L ok rh i
    by_cases c : ok i = true
    · rw [if_pos c] at e
      simp (disch := omega) only [if_pos c, nm_at, Option.bind_some, if_true, if_false, ↓k_m1, ↓k_m2, ↓k_m3, ↓k_m5, ↓k_m9, ↓k_m10, ↓k_mno, k_0, k_1, k_2, k_3, k_4, k_5, k_6, k_7, k_8, k_9, k_10, k_11, k_12, k_13, k_14, k_15, k_16, k_17, k_18, k_19, k_20, k_21, k_22, k_23, k_24, k_25, k_26, k_27, k_28, k_29, k_30, k_31, k_32, k_36, k_48, k_50, k_57, k_58, k_59, k_64, k_97, k_99, k_100, k_101, k_102, k_104, k_105, k_107, k_108, k_109, k_110, k_111, k_114, k_115, k_116, k_119, k_122, k_128, k_255, k_500, k_1000, k_1023, k_10000, k_100000, nI_add, nI_mul, nI_sub, nI_sub0, nI_leI, nI_ltI, nI_eq, nM_lt, nM_le, nM_nlt, nM_nle, nM_ne, nM_ne', nM_eq, q_ii, q_ia, q_ij, q_it, q_aa, q_ai, q_aj, q_at, q_jj, q_ji, q_ja, q_jt, q_tt, q_ti, q_ta, q_tj, u_at, uL_at, Nat.zero_mul, Nat.mul_zero, Nat.one_mul, Nat.mul_one, Nat.zero_add, Nat.add_zero, nI_toInt, agN, asN, agLN, asLN, atvN, setvN, if_pos, if_neg]
      by_cases d : ja L ok rh i = 0
      · rw [if_pos d] at e
        have d2 : encA (nearL (js L ok rh) L (L i) i) = nM 1 := by unfold encA; exact if_pos d
        have en1 := en 1 e.symm
        rw [d2] at en1 ⊢
        simp (disch := omega) only [nm_at, Option.bind_some, if_true, if_false, ↓k_m1, ↓k_m2, ↓k_m3, ↓k_m5, ↓k_m9, ↓k_m10, ↓k_mno, k_0, k_1, k_2, k_3, k_4, k_5, k_6, k_7, k_8, k_9, k_10, k_11, k_12, k_13, k_14, k_15, k_16, k_17, k_18, k_19, k_20, k_21, k_22, k_23, k_24, k_25, k_26, k_27, k_28, k_29, k_30, k_31, k_32, k_36, k_48, k_50, k_57, k_58, k_59, k_64, k_97, k_99, k_100, k_101, k_102, k_104, k_105, k_107, k_108, k_109, k_110, k_111, k_114, k_115, k_116, k_119, k_122, k_128, k_255, k_500, k_1000, k_1023, k_10000, k_100000, nI_add, nI_mul, nI_sub, nI_sub0, nI_leI, nI_ltI, nI_eq, nM_lt, nM_le, nM_nlt, nM_nle, nM_ne, nM_ne', nM_eq, q_ii, q_ia, q_ij, q_it, q_aa, q_ai, q_aj, q_at, q_jj, q_ji, q_ja, q_jt, q_tt, q_ti, q_ta, q_tj, u_at, uL_at, Nat.zero_mul, Nat.mul_zero, Nat.one_mul, Nat.mul_one, Nat.zero_add, Nat.add_zero, nI_toInt, agN, asN, agLN, asLN, atvN, setvN, if_pos, if_neg]
        exact en1
      · obtain ⟨a, ha⟩ : ∃ a, ja L ok rh i = a + 1 := ⟨ja L ok rh i - 1, by omega⟩
        obtain ⟨ha1, -, -⟩ := ja_at ha
        rw [if_neg d, ha] at e
        have d2 : encA (nearL (js L ok rh) L (L i) i) = nI a := by unfold encA; rw [show nearL (js L ok rh) L (L i) i = a + 1 from ha, if_neg (by omega)]; exact congrArg nI (by omega)
        have er := hr a i ha1 hi
        simp only [Nat.add_sub_cancel] at e
        by_cases r : rh a i = true
        · rw [if_pos r] at e er
          have en1 := en 2 e.symm
          rw [d2] at en1 ⊢
          simp (disch := omega) only [er, nm_at, Option.bind_some, if_true, if_false, ↓k_m1, ↓k_m2, ↓k_m3, ↓k_m5, ↓k_m9, ↓k_m10, ↓k_mno, k_0, k_1, k_2, k_3, k_4, k_5, k_6, k_7, k_8, k_9, k_10, k_11, k_12, k_13, k_14, k_15, k_16, k_17, k_18, k_19, k_20, k_21, k_22, k_23, k_24, k_25, k_26, k_27, k_28, k_29, k_30, k_31, k_32, k_36, k_48, k_50, k_57, k_58, k_59, k_64, k_97, k_99, k_100, k_101, k_102, k_104, k_105, k_107, k_108, k_109, k_110, k_111, k_114, k_115, k_116, k_119, k_122, k_128, k_255, k_500, k_1000, k_1023, k_10000, k_100000, nI_add, nI_mul, nI_sub, nI_sub0, nI_leI, nI_ltI, nI_eq, nM_lt, nM_le, nM_nlt, nM_nle, nM_ne, nM_ne', nM_eq, q_ii, q_ia, q_ij, q_it, q_aa, q_ai, q_aj, q_at, q_jj, q_ji, q_ja, q_jt, q_tt, q_ti, q_ta, q_tj, u_at, uL_at, Nat.zero_mul, Nat.mul_zero, Nat.one_mul, Nat.mul_one, Nat.zero_add, Nat.add_zero, nI_toInt, agN, asN, agLN, asLN, atvN, setvN, if_pos, if_neg]
          exact en1
        · rw [if_neg r] at e er
          have en1 := en 0 e.symm
          rw [d2] at en1 ⊢
          simp (disch := omega) only [er, nm_at, Option.bind_some, if_true, if_false, ↓k_m1, ↓k_m2, ↓k_m3, ↓k_m5, ↓k_m9, ↓k_m10, ↓k_mno, k_0, k_1, k_2, k_3, k_4, k_5, k_6, k_7, k_8, k_9, k_10, k_11, k_12, k_13, k_14, k_15, k_16, k_17, k_18, k_19, k_20, k_21, k_22, k_23, k_24, k_25, k_26, k_27, k_28, k_29, k_30, k_31, k_32, k_36, k_48, k_50, k_57, k_58, k_59, k_64, k_97, k_99, k_100, k_101, k_102, k_104, k_105, k_107, k_108, k_109, k_110, k_111, k_114, k_115, k_116, k_119, k_122, k_128, k_255, k_500, k_1000, k_1023, k_10000, k_100000, nI_add, nI_mul, nI_sub, nI_sub0, nI_leI, nI_ltI, nI_eq, nM_lt, nM_le, nM_nlt, nM_nle, nM_ne, nM_ne', nM_eq, q_ii, q_ia, q_ij, q_it, q_aa, q_ai, q_aj, q_at, q_jj, q_ji, q_ja, q_jt, q_tt, q_ti, q_ta, q_tj, u_at, uL_at, Nat.zero_mul, Nat.mul_zero, Nat.one_mul, Nat.mul_one, Nat.zero_add, Nat.add_zero, nI_toInt, agN, asN, agLN, asLN, atvN, setvN, if_pos, if_neg]
          exact en1
    · rw [if_neg c] at e
      simp (disch := omega) only [if_neg c, nm_at, Option.bind_some, if_true, if_false, ↓k_m1, ↓k_m2, ↓k_m3, ↓k_m5, ↓k_m9, ↓k_m10, ↓k_mno, k_0, k_1, k_2, k_3, k_4, k_5, k_6, k_7, k_8, k_9, k_10, k_11, k_12, k_13, k_14, k_15, k_16, k_17, k_18, k_19, k_20, k_21, k_22, k_23, k_24, k_25, k_26, k_27, k_28, k_29, k_30, k_31, k_32, k_36, k_48, k_50, k_57, k_58, k_59, k_64, k_97, k_99, k_100, k_101, k_102, k_104, k_105, k_107, k_108, k_109, k_110, k_111, k_114, k_115, k_116, k_119, k_122, k_128, k_255, k_500, k_1000, k_1023, k_10000, k_100000, nI_add, nI_mul, nI_sub, nI_sub0, nI_leI, nI_ltI, nI_eq, nM_lt, nM_le, nM_nlt, nM_nle, nM_ne, nM_ne', nM_eq, q_ii, q_ia, q_ij, q_it, q_aa, q_ai, q_aj, q_at, q_jj, q_ji, q_ja, q_jt, q_tt, q_ti, q_ta, q_tj, u_at, uL_at, Nat.zero_mul, Nat.mul_zero, Nat.one_mul, Nat.mul_one, Nat.zero_add, Nat.add_zero, nI_toInt, agN, asN, agLN, asLN, atvN, setvN, if_pos, if_neg]
      exact en 0 e.symm
  · intro q z ⟨hI, hl⟩
    show An (F_X9_judge_b24 t7 p t1 t10 (nI f) x4 (q + 1) (nI n) z) _
    rw [F_X9_judge_b24, hI.1]
    simp (disch := omega) only [nm_at, Option.bind_some, if_true, if_false, ↓k_m1, ↓k_m2, ↓k_m3, ↓k_m5, ↓k_m9, ↓k_m10, ↓k_mno, k_0, k_1, k_2, k_3, k_4, k_5, k_6, k_7, k_8, k_9, k_10, k_11, k_12, k_13, k_14, k_15, k_16, k_17, k_18, k_19, k_20, k_21, k_22, k_23, k_24, k_25, k_26, k_27, k_28, k_29, k_30, k_31, k_32, k_36, k_48, k_50, k_57, k_58, k_59, k_64, k_97, k_99, k_100, k_101, k_102, k_104, k_105, k_107, k_108, k_109, k_110, k_111, k_114, k_115, k_116, k_119, k_122, k_128, k_255, k_500, k_1000, k_1023, k_10000, k_100000, nI_add, nI_mul, nI_sub, nI_sub0, nI_leI, nI_ltI, nI_eq, nM_lt, nM_le, nM_nlt, nM_nle, nM_ne, nM_ne', nM_eq, q_ii, q_ia, q_ij, q_it, q_aa, q_ai, q_aj, q_at, q_jj, q_ji, q_ja, q_jt, q_tt, q_ti, q_ta, q_tj, u_at, uL_at, Nat.zero_mul, Nat.mul_zero, Nat.one_mul, Nat.mul_one, Nat.zero_add, Nat.add_zero, nI_toInt, agN, asN, agLN, asLN, atvN, setvN, if_pos, if_neg]
    exact An_some hI
  · show tb 0 j = true ↔ _
    rw [tb_0]
    unfold bnd
    constructor
    · intro h; cases h
    · rintro (h | ⟨k, h, -⟩) <;> omega
  · show g l = _
    rw [hg l hl]; rfl
