/-! ===== parting: the word that parts ===== -/
def mixS (t s : S10) : Prop := s10_size s = s10_size t ∧ s10_meanings s = s10_meanings t ∧ s10_syllables s = s10_syllables t ∧ ∀ k, k < 32 → s10_sounds s k = s10_sounds t k
theorem mixS.wr {t s : S10} (h : mixS t s) (W : Nat) (r : Nat → Int32) (hw : WR t W r) : WR s W r := mix_wr hw (h.1.trans hw.2.1) h.2.1 h.2.2.1 h.2.2.2
def sdm (rw : Nat → Int32) (odd : Nat) : Nat → Int32 := fun w => if w = odd then rw (4 * w) else rw (4 * w + 1)
/-- LAW, were one word's sound that in dialect 0 -/
def pcP (rf rm rw r : Nat → Int32) (f P w : Nat) : Prop := lawP (bnd (vL rf f) (vO rf rm rw f r) (vR (sdm rw w) r) P) P
theorem partX_lp {o : S11} {t7 : S7} {t1 : S1} {tp : S4} {t10 : S10} {W F P f : Nat} {rm rw rf r : Nat → Int32} (hM : MR t7 rm) (hW : WR t10 W rw) (hF : FR t1 F rf) (hf : f < F) (hp : LR tp P 8 W r) (z0 : S9) : An (F_X11_parting_b45 o t7 t1 tp (nI f) fu (nI 0) z0 t10) (fun q => empP (fun w => ¬ pcP rf rm rw r f P w) W q.1 ∧ mixS t10 q.2.2) := by
  have h16 := hW.1
  refine lp_up (fun q v (x : S9 × S10) => F_X11_parting_b45 o t7 t1 tp (nI f) q v x.1 x.2) W (fun m x => mixS t10 x.2 ∧ ∀ w, w < m → ¬ pcP rf rm rw r f P w) _ ?_ ?_ fu 0 (z0, t10) (by omega) (by unfold fu; omega) ⟨⟨rfl, rfl, rfl, fun _ _ => rfl⟩, fun w hw => by omega⟩
  · intro q m ⟨z, s⟩ hm ⟨h1, h2⟩ hK
    simp only [] at h1
    have hWs := h1.wr W rw hW
    obtain ⟨s2, e1, g1, g2, g3, g4, g5⟩ := mix_t hWs.2.1 h16 hm
    have hmx : mixS t10 s2 := ⟨g1.trans hW.2.1.symm, g2.trans h1.2.1, g3.trans h1.2.2.1, fun k hk => (g4 k hk).trans (h1.2.2.2 k hk)⟩
    have hWs2 := hmx.wr W rw hW
    obtain ⟨z2, z3, z4⟩ := view_ok (v := z) (d := 2) (sd := sdm rw m) hM hWs2 hF hf hp (by omega) (by omega) (fun w hw => by
      rw [show 16 * 2 + w = 32 + w from by omega, g5 w hw]
      unfold sdm
      obtain ⟨⟨y1, y2, -, -⟩, -⟩ := hWs.2.2 w hw
      rw [y1, y2])
    obtain ⟨x, x1, x2⟩ := lawX_t hp.1 z4
    have ex : F_X11_isMixedLaw o t7 z t1 tp s (nI f) (nI m) = some (x, z2, s2) := by
      unfold F_X11_isMixedLaw F_X11_view
      rw [e1]
      simp only [Option.bind_some]
      rw [show F_X9_judge t7 tp z t1 s2 (nI f) 2 = some z2 from z3]
      simp only [Option.bind_some]
      rw [x1]
      simp only [Option.bind_some]
      rcases is01_cases x2 with ⟨y, -⟩ | ⟨y, -⟩ <;> rw [y] <;> rfl
    show An (F_X11_parting_b45 o t7 t1 tp (nI f) (q + 1) (nI m) z s) _
    rw [F_X11_parting_b45]
    unfold F_X10_size
    rw [hWs.2.1]
    simp only [Option.bind_some]
    rw [if_neg (nI_ge hm (by omega)), ex]
    simp only [Option.bind_some]
    rcases is01_cases x2 with ⟨y, y2⟩ | ⟨y, y2⟩
    · rw [if_pos (show x = 0 from y), nm_at, nI_1]
      refine hK (z2, s2) ⟨hmx, fun w hw => ?_⟩
      by_cases c : w = m
      · rw [c]; exact y2
      · exact h2 w (by omega)
    · rw [if_neg (show ¬ x = 0 from by rw [y]; decide)]
      exact An_some ⟨Or.inr ⟨m, hm, rfl, fun g => g y2, h2⟩, hmx⟩
  · intro q ⟨z, s⟩ ⟨h1, h2⟩
    simp only [] at h1
    show An (F_X11_parting_b45 o t7 t1 tp (nI f) (q + 1) (nI W) z s) _
    rw [F_X11_parting_b45]
    unfold F_X10_size
    rw [(h1.wr W rw hW).2.1]
    simp only [Option.bind_some]
    rw [if_pos (nI_le (Nat.le_refl W) (by omega))]
    exact An_some ⟨Or.inl ⟨rfl, h2⟩, h1⟩
abbrev pA : List Nat := [31, 26, 27, 28, 29]
theorem partM_lp {t7 : S7} {t10 : S10} {t1 : S1} {P W F f : Nat} {s0 : SM} {r : Nat → Int32} (hM : MR t7 (mA s0 11)) (hW : WR t10 W (mA s0 9)) (hF : FR t1 F (mA s0 10)) (hf : f < F) (h8 : P ≤ 8) (hr : LW P W r) (h13 : mI s0 13 = nI W) (h25 : mI s0 25 = nI P) (h24 : ∀ j, j < 3 * P → mA s0 24 j = r j) (hno : ¬ lawP (bnd (vL (mA s0 10) f) (vO (mA s0 10) (mA s0 11) (mA s0 9) f r) (vR (fun w => mA s0 9 (4 * w + 1)) r) P) P) : An (F_X12_parting_b53 (nI f) fu (nI 0) s0) (fun q => empP (fun w => ¬ pcP (mA s0 10) (mA s0 11) (mA s0 9) r f P w) W q.1 ∧ Fr [] pA [] s0 q.2) := by
  have h16 := hW.1
  have hword : ∀ i, i < P → r (3 * i) = nI (cn (r (3 * i))) ∧ cn (r (3 * i)) < W := fun i hi => Lb_cn (hr i hi).1 (by omega)
  refine lp_up (fun q v s => F_X12_parting_b53 (nI f) q v s) W (fun m s => Fr [] pA [] s0 s ∧ ∀ w, w < m → ¬ pcP (mA s0 10) (mA s0 11) (mA s0 9) r f P w) _ ?_ ?_ fu 0 s0 (by omega) (by unfold fu; omega) ⟨Fr.rf s0, fun w hw => by omega⟩
  · intro q m s hm ⟨h1, h2⟩ hK
    have f13 : mI s 13 = nI W := (h1.1 13 (by decide)).trans h13
    have f25 : mI s 25 = nI P := (h1.1 25 (by decide)).trans h25
    have f24 := h1.2.1 24 (by decide)
    show An (F_X12_parting_b53 (nI f) (q + 1) (nI m) s) _
    rw [F_X12_parting_b53, f13, if_neg (nI_ge hm (by omega)), nm_at, nm_at]
    refine lp_up (fun q2 v (x : Int32) => F_X12_parting_b67 (nI f) (F_X12_parting_b53 (nI f) q) q2 (nI m) x v s) P (fun k x => is01 (∃ i, i < k ∧ cn (r (3 * i)) = m) x) _ ?_ ?_ fu 0 (nI 0) (by omega) (by unfold fu; omega) (is01_0 fun ⟨i, hi, _⟩ => by omega)
    · intro q2 k x hk hx hK2
      obtain ⟨e1, e2⟩ := hword k hk
      have e3 : mA s 24 (3 * k) = nI (cn (r (3 * k))) := by rw [f24, h24 _ (by omega)]; exact e1
      show An (F_X12_parting_b67 (nI f) (F_X12_parting_b53 (nI f) q) (q2 + 1) (nI m) x (nI k) s) _
      rw [F_X12_parting_b67, f25, if_neg (nI_ge hk (by omega)), show (3 : Int32) * nI k = nI (3 * k) from nI_mul 3 k, agN (by omega) (by omega), Option.bind_some, e3]
      unfold F_X12_parting_b96
      by_cases c : cn (r (3 * k)) = m
      · rw [if_pos (by rw [c]), nm_at, nm_at, nI_1]
        refine hK2 _ ?_
        have e4 : x ||| 1 = nI 1 := by
          rcases is01_cases hx with ⟨y, -⟩ | ⟨y, -⟩ <;> rw [y] <;> decide
        rw [e4]
        exact is01_1 ⟨k, by omega, c⟩
      · rw [if_neg (by rw [nI_eq (by omega) (by omega)]; exact c), nm_at, nm_at, nI_1]
        refine hK2 _ ?_
        rw [show x ||| 0 = x from or_0 x]
        refine ⟨hx.1, hx.2.trans ?_⟩
        constructor
        · rintro ⟨i, y1, y2⟩; exact ⟨i, by omega, y2⟩
        · rintro ⟨i, y1, y2⟩
          by_cases g : i = k
          · rw [g] at y2; exact absurd y2 c
          · exact ⟨i, by omega, y2⟩
    · intro q2 x hx
      show An (F_X12_parting_b67 (nI f) (F_X12_parting_b53 (nI f) q) (q2 + 1) (nI m) x (nI P) s) _
      rw [F_X12_parting_b67, f25, if_pos (nI_le (Nat.le_refl P) (by omega))]
      refine An_bind (hears_t (d := 1) (by omega)) fun s1 ⟨a1, a2⟩ => ?_
      have b1 : Fr [] pA [] s0 s1 := h1.tr (a1.wd (by decide) (by decide) (by decide))
      have f9 := b1.2.1 9 (by decide)
      have f10 := b1.2.1 10 (by decide)
      have f11 := b1.2.1 11 (by decide)
      have g9 := h1.2.1 9 (by decide)
      simp (disch := omega) only [f9, and_true, true_and, and_false, false_and, or_true, true_or, or_false, false_or, not_true_eq_false, not_false_eq_true, nm_at, Option.bind_some, if_true, if_false, ↓k_m1, ↓k_m2, ↓k_m3, ↓k_m5, ↓k_m9, ↓k_m10, ↓k_mno, k_0, k_1, k_2, k_3, k_4, k_5, k_6, k_7, k_8, k_9, k_10, k_11, k_12, k_13, k_14, k_15, k_16, k_17, k_18, k_19, k_20, k_21, k_22, k_23, k_24, k_25, k_26, k_27, k_28, k_29, k_30, k_31, k_32, k_36, k_48, k_50, k_57, k_58, k_59, k_64, k_97, k_99, k_100, k_101, k_102, k_104, k_105, k_107, k_108, k_109, k_110, k_111, k_114, k_115, k_116, k_119, k_122, k_128, k_255, k_500, k_1000, k_1023, k_10000, k_100000, nI_add, nI_mul, nI_sub, nI_sub0, nI_leI, nI_ltI, nI_eq, nM_lt, nM_le, nM_nlt, nM_nle, nM_ne, nM_ne', nM_eq, q_ii, q_ia, q_ij, q_it, q_aa, q_ai, q_aj, q_at, q_jj, q_ji, q_ja, q_jt, q_tt, q_ti, q_ta, q_tj, u_at, uL_at, Nat.zero_mul, Nat.mul_zero, Nat.one_mul, Nat.mul_one, Nat.zero_add, Nat.add_zero, nI_toInt, agN, asN, agLN, asLN, atvN, setvN, if_pos, if_neg]
      have b2 : Fr [] pA [] s0 (mAs s1 31 (upd (mA s1 31) m (mA s0 9 (4 * m)))) := b1.a 31 _ (by decide)
      have hJ := JH_ok (t7 := t7) (t10 := t10) (t1 := t1) (s := mAs s1 31 (upd (mA s1 31) m (mA s0 9 (4 * m)))) (f := f) (F := F) (W := W) (n := P) (r := r) (sd := sdm (mA s0 9) m) (by rw [q_aa, if_neg (by omega), f11]; exact hM) (by rw [q_aa, if_neg (by omega), f9]; exact hW) (by rw [q_aa, if_neg (by omega), f10]; exact hF) hf h8 hr (by rw [q_ia, b1.1 25 (by decide)]; exact h25) (fun j hj => by rw [q_aa, if_neg (by omega), b1.2.1 24 (by decide)]; exact h24 j hj) (fun w hw => by
        rw [q_aa, if_pos rfl, u_at]
        unfold sdm
        by_cases c : w = m
        · rw [if_pos c, if_pos c, c]
        · rw [if_neg c, if_neg c, a2 w (by omega), g9])
      rw [q_aa, if_neg (by omega), q_aa, if_neg (by omega), q_aa, if_neg (by omega), f9, f10, f11] at hJ
      unfold F_X12_parting_b139
      rcases is01_cases hx with ⟨y, y2⟩ | ⟨y, y2⟩
      · -- no line has the word: then it parts nothing
        rw [y]
        simp (disch := omega) only [and_true, true_and, and_false, false_and, or_true, true_or, or_false, false_or, not_true_eq_false, not_false_eq_true, nm_at, Option.bind_some, if_true, if_false, ↓k_m1, ↓k_m2, ↓k_m3, ↓k_m5, ↓k_m9, ↓k_m10, ↓k_mno, k_0, k_1, k_2, k_3, k_4, k_5, k_6, k_7, k_8, k_9, k_10, k_11, k_12, k_13, k_14, k_15, k_16, k_17, k_18, k_19, k_20, k_21, k_22, k_23, k_24, k_25, k_26, k_27, k_28, k_29, k_30, k_31, k_32, k_36, k_48, k_50, k_57, k_58, k_59, k_64, k_97, k_99, k_100, k_101, k_102, k_104, k_105, k_107, k_108, k_109, k_110, k_111, k_114, k_115, k_116, k_119, k_122, k_128, k_255, k_500, k_1000, k_1023, k_10000, k_100000, nI_add, nI_mul, nI_sub, nI_sub0, nI_leI, nI_ltI, nI_eq, nM_lt, nM_le, nM_nlt, nM_nle, nM_ne, nM_ne', nM_eq, q_ii, q_ia, q_ij, q_it, q_aa, q_ai, q_aj, q_at, q_jj, q_ji, q_ja, q_jt, q_tt, q_ti, q_ta, q_tj, u_at, uL_at, Nat.zero_mul, Nat.mul_zero, Nat.one_mul, Nat.mul_one, Nat.zero_add, Nat.add_zero, nI_toInt, agN, asN, agLN, asLN, atvN, setvN, if_pos, if_neg]
        refine hK _ ⟨b2, fun w hw => ?_⟩
        by_cases c : w = m
        · rw [c]
          intro hl
          refine hno (law_cg ?_ hl)
          intro a i ha hi
          unfold vR rhv sdm
          rw [if_neg (fun z => y2 ⟨a, by omega, z⟩), if_neg (fun z => y2 ⟨i, hi, z⟩)]
        · exact h2 w (by omega)
      · rw [y]
        simp (disch := omega) only [and_true, true_and, and_false, false_and, or_true, true_or, or_false, false_or, not_true_eq_false, not_false_eq_true, nm_at, Option.bind_some, if_true, if_false, ↓k_m1, ↓k_m2, ↓k_m3, ↓k_m5, ↓k_m9, ↓k_m10, ↓k_mno, k_0, k_1, k_2, k_3, k_4, k_5, k_6, k_7, k_8, k_9, k_10, k_11, k_12, k_13, k_14, k_15, k_16, k_17, k_18, k_19, k_20, k_21, k_22, k_23, k_24, k_25, k_26, k_27, k_28, k_29, k_30, k_31, k_32, k_36, k_48, k_50, k_57, k_58, k_59, k_64, k_97, k_99, k_100, k_101, k_102, k_104, k_105, k_107, k_108, k_109, k_110, k_111, k_114, k_115, k_116, k_119, k_122, k_128, k_255, k_500, k_1000, k_1023, k_10000, k_100000, nI_add, nI_mul, nI_sub, nI_sub0, nI_leI, nI_ltI, nI_eq, nM_lt, nM_le, nM_nlt, nM_nle, nM_ne, nM_ne', nM_eq, q_ii, q_ia, q_ij, q_it, q_aa, q_ai, q_aj, q_at, q_jj, q_ji, q_ja, q_jt, q_tt, q_ti, q_ta, q_tj, u_at, uL_at, Nat.zero_mul, Nat.mul_zero, Nat.one_mul, Nat.mul_one, Nat.zero_add, Nat.add_zero, nI_toInt, agN, asN, agLN, asLN, atvN, setvN, if_pos, if_neg]
        refine An_bind (lawM_t h8 hJ) fun u ⟨c1, c2, c3⟩ => ?_
        have b3 : Fr [] pA [] s0 u.2 := b2.tr (c2.wd (by decide) (by decide) (by decide))
        rcases is01_cases c1 with ⟨e, e2⟩ | ⟨e, e2⟩
        · rw [e]
          simp (disch := omega) only [and_true, true_and, and_false, false_and, or_true, true_or, or_false, false_or, not_true_eq_false, not_false_eq_true, nm_at, Option.bind_some, if_true, if_false, ↓k_m1, ↓k_m2, ↓k_m3, ↓k_m5, ↓k_m9, ↓k_m10, ↓k_mno, k_0, k_1, k_2, k_3, k_4, k_5, k_6, k_7, k_8, k_9, k_10, k_11, k_12, k_13, k_14, k_15, k_16, k_17, k_18, k_19, k_20, k_21, k_22, k_23, k_24, k_25, k_26, k_27, k_28, k_29, k_30, k_31, k_32, k_36, k_48, k_50, k_57, k_58, k_59, k_64, k_97, k_99, k_100, k_101, k_102, k_104, k_105, k_107, k_108, k_109, k_110, k_111, k_114, k_115, k_116, k_119, k_122, k_128, k_255, k_500, k_1000, k_1023, k_10000, k_100000, nI_add, nI_mul, nI_sub, nI_sub0, nI_leI, nI_ltI, nI_eq, nM_lt, nM_le, nM_nlt, nM_nle, nM_ne, nM_ne', nM_eq, q_ii, q_ia, q_ij, q_it, q_aa, q_ai, q_aj, q_at, q_jj, q_ji, q_ja, q_jt, q_tt, q_ti, q_ta, q_tj, u_at, uL_at, Nat.zero_mul, Nat.mul_zero, Nat.one_mul, Nat.mul_one, Nat.zero_add, Nat.add_zero, nI_toInt, agN, asN, agLN, asLN, atvN, setvN, if_pos, if_neg]
          refine hK _ ⟨b3, fun w hw => ?_⟩
          by_cases c : w = m
          · rw [c]; exact e2
          · exact h2 w (by omega)
        · rw [e]
          simp (disch := omega) only [and_true, true_and, and_false, false_and, or_true, true_or, or_false, false_or, not_true_eq_false, not_false_eq_true, nm_at, Option.bind_some, if_true, if_false, ↓k_m1, ↓k_m2, ↓k_m3, ↓k_m5, ↓k_m9, ↓k_m10, ↓k_mno, k_0, k_1, k_2, k_3, k_4, k_5, k_6, k_7, k_8, k_9, k_10, k_11, k_12, k_13, k_14, k_15, k_16, k_17, k_18, k_19, k_20, k_21, k_22, k_23, k_24, k_25, k_26, k_27, k_28, k_29, k_30, k_31, k_32, k_36, k_48, k_50, k_57, k_58, k_59, k_64, k_97, k_99, k_100, k_101, k_102, k_104, k_105, k_107, k_108, k_109, k_110, k_111, k_114, k_115, k_116, k_119, k_122, k_128, k_255, k_500, k_1000, k_1023, k_10000, k_100000, nI_add, nI_mul, nI_sub, nI_sub0, nI_leI, nI_ltI, nI_eq, nM_lt, nM_le, nM_nlt, nM_nle, nM_ne, nM_ne', nM_eq, q_ii, q_ia, q_ij, q_it, q_aa, q_ai, q_aj, q_at, q_jj, q_ji, q_ja, q_jt, q_tt, q_ti, q_ta, q_tj, u_at, uL_at, Nat.zero_mul, Nat.mul_zero, Nat.one_mul, Nat.mul_one, Nat.zero_add, Nat.add_zero, nI_toInt, agN, asN, agLN, asLN, atvN, setvN, if_pos, if_neg]
          exact An_some ⟨Or.inr ⟨m, hm, rfl, fun g => g e2, h2⟩, b3⟩
  · intro q s ⟨h1, h2⟩
    have f13 : mI s 13 = nI W := (h1.1 13 (by decide)).trans h13
    show An (F_X12_parting_b53 (nI f) (q + 1) (nI W) s) _
    rw [F_X12_parting_b53, f13, if_pos (nI_le (Nat.le_refl W) (by omega))]
    exact An_some ⟨Or.inl ⟨rfl, h2⟩, h1⟩
theorem op_parting {st : SX} {ms : SM} (h : Inv st ms) (a1 : Int32) : ∃ (r r2 : Int32) (st2 : SX) (ms2 : SM), X_parting st a1 = some (r, st2) ∧ M_parting ms a1 = some (r2, ms2) ∧ r = r2 ∧ Inv st2 ms2 := by
  obtain ⟨o, tx, ve, tr, me, gu, ch, row, i1, i2, t7, t10, t1, tp, ts, p7, p10, p1, pp, ps⟩ := st
  obtain ⟨W, F, P, S, T, ⟨hW, hF, hP, hS, hT⟩, hTX, hWR, hFR, hMR, hLP, hLS, hI1, hI2, hMo, hTr⟩ := (show IV o tx tr row i1 i2 t7 t10 t1 tp ts pp ps ms from h)
  have hP8 := hLP.1
  have hW16 := hWR.1
  have hF2 := hFR.1
  have hS6 := hLS.1
  have hs := hLP.2.2.1.1
  by_cases c1 : 0 ≤ a1.toInt ∧ a1.toInt < F
  · obtain ⟨f, hf, rfl⟩ := Lb.of c1
    have c1' : (0 ≤ (nI f).toInt ∧ (nI f).toInt < F) ∧ 0 ≤ (0 : Int32).toInt ∧ (0 : Int32).toInt < 2 := ⟨c1, by decide, by decide⟩
    obtain ⟨z, z1, z2⟩ := view_ok (v := ve) (d := 0) hMR hWR hFR hf hLP (by omega) (by omega) (snd_d hWR (by omega))
    obtain ⟨y, y1, y2⟩ := view_ok (v := z) (d := 1) hMR hWR hFR hf hLP (by omega) (by omega) (snd_d hWR (by omega))
    obtain ⟨x0, x1, x2⟩ := lawX_t hP8 z2
    obtain ⟨u0, u1, u2⟩ := lawX_t hP8 y2
    obtain ⟨g, g1, g2, g3⟩ := partX_lp (o := o) hMR hWR hFR hf hLP y
    have hX : ∃ zz ww, F_X11_parting o t7 ve t1 tp t10 (nI f) = some (if x0 = 0 then nM 9 else if u0 = 0 then g.1 else nM 9, zz, ww) ∧ mixS t10 ww := by
      unfold F_X11_parting F_X11_view
      rw [fhas_t t1 (by omega) hFR.2.1, if_pos c1]
      simp only [Option.bind_some]
      rw [if_neg (by decide), show F_X9_judge t7 tp ve t1 t10 (nI f) 0 = some z from z1]
      simp only [Option.bind_some]
      rw [x1]
      simp only [Option.bind_some]
      by_cases e : x0 = 0
      · rw [if_pos e, if_pos e]; exact ⟨_, _, rfl, rfl, rfl, rfl, fun _ _ => rfl⟩
      · rw [if_neg e, if_neg e, show F_X9_judge t7 tp z t1 t10 (nI f) 1 = some y from y1]
        simp only [Option.bind_some]
        rw [u1]
        simp only [Option.bind_some]
        by_cases e2 : u0 = 0
        · rw [if_pos e2, if_pos e2, nm_at, show F_X11_parting_b45 o t7 t1 tp (nI f) fu 0 y t10 = some g from g1]
          exact ⟨g.2.1, g.2.2, rfl, g3⟩
        · rw [if_neg e2, if_neg e2]; exact ⟨_, _, rfl, rfl, rfl, rfl, fun _ _ => rfl⟩
    have hM : An (F_X12_parting ms (nI f)) (fun q => q.1 = (if x0 = 0 then nM 9 else if u0 = 0 then g.1 else nM 9) ∧ Fr scI scA scJ ms q.2) := by
      unfold F_X12_parting
      rw [nm_at, isForm_t (s := mIs ms 0 0) hF (by omega), if_pos c1']
      simp only [Option.bind_some]
      rw [if_neg (by decide)]
      refine lh_t W (s := mIs ms 0 0) (d := 1) hP hP8 (by omega) fun s' ⟨a1, a2, a3, a4⟩ => ?_
      have e9 := a1.2.1 9 (by decide)
      have e10 := a1.2.1 10 (by decide)
      have e11 := a1.2.1 11 (by decide)
      have hJ := JH_ok (t7 := t7) (t10 := t10) (t1 := t1) (s := s') (f := f) (F := F) (W := W) (n := P) (r := fun j => mA ms 21 (1 + j)) (sd := fun w => mA ms 9 (4 * w + 1)) (by rw [e11]; exact hMR) (by rw [e9]; exact hWR) (by rw [e10]; exact hFR) hf hP8 hLP.2.2.2 a2 a3 (fun w hw => a4 w (by omega))
      rw [e9, e10, e11] at hJ
      refine An_bind (lawM_t hP8 hJ) fun q1 ⟨b1, b2, b3⟩ => ?_
      have eu : q1.1 = u0 := is01_uniq b1 u2
      rw [nm_at, eu]
      refine An_bind (hears_t (d := 0) (by omega)) fun s2 ⟨d1, d2⟩ => ?_
      have k1 : Fr [] pA [] s' s2 := (b2.wd (by decide) (by decide) (by decide)).tr (d1.wd (by decide) (by decide) (by decide))
      have hfr2 : Fr scI scA scJ ms s2 := ((fr0 ms).tr (a1.wd (by decide) (by decide) (by decide))).tr (k1.wd (by decide) (by decide) (by decide))
      by_cases e2 : u0 = 0
      · rw [if_pos e2]
        have f9 : mA s2 9 = mA ms 9 := (k1.2.1 9 (by decide)).trans e9
        have f10 : mA s2 10 = mA ms 10 := (k1.2.1 10 (by decide)).trans e10
        have f11 : mA s2 11 = mA ms 11 := (k1.2.1 11 (by decide)).trans e11
        have f24 : ∀ j, j < 3 * P → mA s2 24 j = mA ms 21 (1 + j) := fun j hj => by rw [k1.2.1 24 (by decide)]; exact a3 j hj
        have f25 : mI s2 25 = nI P := (k1.1 25 (by decide)).trans a2
        have hJ2 := JH_ok (t7 := t7) (t10 := t10) (t1 := t1) (s := s2) (f := f) (F := F) (W := W) (n := P) (r := fun j => mA ms 21 (1 + j)) (sd := fun w => mA ms 9 (4 * w + 0)) (by rw [f11]; exact hMR) (by rw [f9]; exact hWR) (by rw [f10]; exact hFR) hf hP8 hLP.2.2.2 f25 f24 (fun w hw => by rw [d2 w (by omega), b2.2.1 9 (by decide), e9]; rfl)
        rw [f9, f10, f11] at hJ2
        refine An_bind (lawM_t hP8 hJ2) fun q2 ⟨m1, m2, m3⟩ => ?_
        have ex : q2.1 = x0 := is01_uniq m1 x2
        rw [ex]
        have k2 : Fr [] pA [] s' q2.2 := k1.tr (m2.wd (by decide) (by decide) (by decide))
        have hfr3 : Fr scI scA scJ ms q2.2 := hfr2.tr (fr_jA m2)
        by_cases e : x0 = 0
        · rw [if_pos e]; exact An_some ⟨by rw [if_pos e]; rfl, hfr3⟩
        · rw [if_neg e, nm_at]
          have l9 : mA q2.2 9 = mA ms 9 := (k2.2.1 9 (by decide)).trans e9
          have l10 : mA q2.2 10 = mA ms 10 := (k2.2.1 10 (by decide)).trans e10
          have l11 : mA q2.2 11 = mA ms 11 := (k2.2.1 11 (by decide)).trans e11
          have hno : ¬ lawP (bnd (vL (mA ms 10) f) (vO (mA ms 10) (mA ms 11) (mA ms 9) f (fun j => mA ms 21 (1 + j))) (vR (fun w => mA ms 9 (4 * w + 1)) (fun j => mA ms 21 (1 + j))) P) P := by
            intro hl
            have := u2.2.mpr hl
            rw [e2] at this
            exact absurd this (by decide)
          have hl := partM_lp (t7 := t7) (t10 := t10) (t1 := t1) (P := P) (W := W) (F := F) (f := f) (s0 := q2.2) (r := fun j => mA ms 21 (1 + j)) (by rw [l11]; exact hMR) (by rw [l9]; exact hWR) (by rw [l10]; exact hFR) hf hP8 hLP.2.2.2 (by rw [hfr3.1 13 (by decide)]; exact hW) ((k2.1 25 (by decide)).trans a2) (fun j hj => by rw [k2.2.1 24 (by decide)]; exact a3 j hj) (by rw [l9, l10, l11]; exact hno)
          rw [l9, l10, l11] at hl
          refine An_mono hl fun q ⟨n1, n2⟩ => ⟨?_, hfr3.tr (n2.wd (by decide) (by decide) (by decide))⟩
          rw [if_neg e, if_pos e2]
          exact emp_uniq n1 g2
      · rw [if_neg e2]
        refine An_some ⟨?_, hfr2⟩
        by_cases e : x0 = 0
        · rw [if_pos e]; rfl
        · rw [if_neg e, if_neg e2]; rfl
    obtain ⟨zz, ww, hX, hmx⟩ := hX
    obtain ⟨q, q1, q2, q3⟩ := hM
    refine ⟨_, q.1, (o, tx, zz, tr, me, gu, ch, row, i1, i2, t7, ww, t1, tp, ts, p7, p10, p1, pp, ps), q.2, ?_, ?_, q2.symm, ?_⟩
    · unfold X_parting; rw [hX]; rfl
    · unfold M_parting; rw [q1]; rfl
    · exact IV.fr (show IV o tx tr row i1 i2 t7 t10 t1 tp ts pp ps ms from h) q3 hMo.1 hMo.2.1 hmx.wr
  · refine ⟨nM 1, nM 1, (o, tx, ve, tr, me, gu, ch, row, i1, i2, t7, t10, t1, tp, ts, p7, p10, p1, pp, ps), mIs ms 0 0, ?_, ?_, rfl, IV.f0 h (fr0 ms)⟩
    · unfold X_parting F_X11_parting
      rw [fhas_t t1 (by omega) hFR.2.1, if_neg c1]
      rfl
    · unfold M_parting F_X12_parting
      rw [nm_at, isForm_t (s := mIs ms 0 0) hF (by omega), if_neg (fun y => c1 y.1)]
      rfl
