/-! ===== items of numbers ===== -/
theorem word_it {s : S8} {m : SM} {T a W F P S : Nat} {r : Nat → Int32} {t7 : S7} {t10 : S10} {t1 : S1} {pp ps : S4} (hs : TX s T r) (ha : a ≤ T) (he : s8_end s = nI a) (hM : MT m T r) (hR : RW m T r a) (hD : DR W F P S t7 t10 t1 pp ps m) (hW : W < 16) : ∃ q1 s2 t2 m2, F_X5_tellWord s t10 = some (q1, s2, t2) ∧ F_X12_readsWord m = some m2 ∧ PD m m2 ∧ IR T r a q1 s2 m2 (DR (W + 1) F P S t7 t2 t1 pp ps m2) := by
  obtain ⟨⟨d16, d17, d19, d18⟩, dW, dF, dM, dP, dS⟩ := id hD
  have h500 := hs.1
  have hW16 := dW.1
  have hP8 := dP.1
  have hS6 := dS.1
  have hcls : F_X5_tellWord s t10 = ((F_X5_nextNumber s 0 25).bind fun q_2 => nm q_2.1 fun v2_3 => (if 0 ≤ v2_3 then (F_X5_nextNumber q_2.2 0 25).bind fun q_4 => nm q_4.1 fun v3_5 => (if 0 ≤ v3_5 then (F_X5_nextNumber q_4.2 0 9).bind fun q_6 => nm q_6.1 fun v4_7 => (if 0 ≤ v4_7 then (F_X5_nextNumber q_6.2 1 4).bind fun q_8 => nm q_8.1 fun v5_9 => (if v5_9 < 0 then some (0, q_8.2, t10) else (F_X5_nextStop q_8.2).bind fun q_10 => (if q_10.1 = 0 then some (0, q_10.2, t10) else (F_X10_add t10 v2_3 v3_5 v4_7 v5_9).bind fun q_11 => some (1, q_10.2, q_11))) else some (0, q_6.2, t10)) else some (0, q_4.2, t10)) else some (0, q_2.2, t10))) := by
    unfold F_X5_tellWord F_X10_isFull
    rw [dW.2.1, if_pos (show nI W < 16 from nI_lt (b := 16) hW (by omega)), Option.bind_some, if_pos rfl]
  have href : F_X12_readsWord m = ((F_X12_number m 0 25).bind fun q_2 => (aset 128 (mA q_2.2 9) (nI (64 + 4 * W)) q_2.1).bind fun f_3 => nm (mAs q_2.2 9 f_3) fun s_o_4 => (F_X12_number s_o_4 0 25).bind fun q_5 => (aset 128 (mA q_5.2 9) (nI (64 + 4 * W + 1)) q_5.1).bind fun f_6 => nm (mAs q_5.2 9 f_6) fun s_o_7 => (F_X12_number s_o_7 0 9).bind fun q_8 => (aset 128 (mA q_8.2 9) (nI (64 + 4 * W + 2)) q_8.1).bind fun f_9 => nm (mAs q_8.2 9 f_9) fun s_o_10 => (F_X12_number s_o_10 1 4).bind fun q_11 => (aset 128 (mA q_11.2 9) (nI (64 + 4 * W + 3)) q_11.1).bind fun f_12 => nm (mAs q_11.2 9 f_12) fun s_o_13 => nm (mIs s_o_13 16 ((mI s_o_13 16) + 1)) fun s_o_14 => some (s_o_14)) := by
    unfold F_X12_readsWord
    rw [nm_at, d16, show (64 : Int32) + 4 * nI W = nI (64 + 4 * W) from by rw [show (4 : Int32) * nI W = nI (4 * W) from nI_mul 4 W]; exact nI_add 64 _, show nI (64 + 4 * W) + 1 = nI (64 + 4 * W + 1) from nI_add _ 1, show nI (64 + 4 * W) + 2 = nI (64 + 4 * W + 2) from nI_add _ 2, show nI (64 + 4 * W) + 3 = nI (64 + 4 * W + 3) from nI_add _ 3]
  obtain ⟨s1, tc1, ok1, bad1⟩ := nextX_t (lo := 0) (H := 26) hs ha he (by omega) (by omega)
  refine Decidable.byCases (dec := Classical.propDecidable _) (p := nOK (tb0 r) T 0 26 a) (fun c1 => ?_) (fun c1 => ?_)
  · have x1 : F_X5_nextNumber s 0 25 = some (nI (tV (tb0 r) T a), s1) := by rw [show (25 : Int32) = nI 26 - 1 from by decide]; exact ok1 c1
    have hA1 : tE (tb0 r) T a ≤ T := (tE_le (b := tb0 r) ha).2.1
    have hB1 : a ≤ tE (tb0 r) T a := Nat.le_trans (tS_le (b := tb0 r) ha).1 (tE_le (b := tb0 r) ha).1
    have v1 := tV_lt ha c1.1
    obtain ⟨⟨y1, m1⟩, e1, ey1, f1, w1⟩ := numM_ok hM ha hR (by omega) (by omega) c1
    simp only [] at ey1 f1 w1
    subst ey1
    have z1 : F_X12_number m 0 25 = some (nI (tV (tb0 r) T a), m1) := by rw [show (25 : Int32) = nI 26 - 1 from by decide]; exact e1
    obtain ⟨n1, en1⟩ : ∃ x, x = mAs m1 9 (upd (mA m1 9) (64 + 4 * W) (nI (tV (tb0 r) T a))) := ⟨_, rfl⟩
    have p1 : PD m n1 := by rw [en1]; exact ((PD.rf m).fr f1).a 9 _ _ (Or.inl ⟨rfl, by omega⟩)
    have hN1 : MT n1 T r := hM.fr (p1.1 3 (by decide)) (p1.2.1 2 (by decide))
    have hRn1 : RW n1 T r (tE (tb0 r) T a) := by rw [en1]; exact w1
    obtain ⟨A1, hAe1⟩ : ∃ x, x = tE (tb0 r) T a := ⟨_, rfl⟩
    rw [← hAe1] at hA1 hB1 hRn1
    have te1 : s8_end s1 = nI A1 := by rw [hAe1]; exact tc1.2.2.1
    obtain ⟨s2, tc2, ok2, bad2⟩ := nextX_t (lo := 0) (H := 26) tc1.1 hA1 te1 (by omega) (by omega)
    refine Decidable.byCases (dec := Classical.propDecidable _) (p := nOK (tb0 r) T 0 26 A1) (fun c2 => ?_) (fun c2 => ?_)
    · have x2 : F_X5_nextNumber s1 0 25 = some (nI (tV (tb0 r) T A1), s2) := by rw [show (25 : Int32) = nI 26 - 1 from by decide]; exact ok2 c2
      have hA2 : tE (tb0 r) T A1 ≤ T := (tE_le (b := tb0 r) hA1).2.1
      have hB2 : a ≤ tE (tb0 r) T A1 := Nat.le_trans hB1 (Nat.le_trans (tS_le (b := tb0 r) hA1).1 (tE_le (b := tb0 r) hA1).1)
      have v2 := tV_lt hA1 c2.1
      obtain ⟨⟨y2, m2⟩, e2, ey2, f2, w2⟩ := numM_ok (m := n1) hN1 hA1 (hRn1) (by omega) (by omega) c2
      simp only [] at ey2 f2 w2
      subst ey2
      have z2 : F_X12_number n1 0 25 = some (nI (tV (tb0 r) T A1), m2) := by rw [show (25 : Int32) = nI 26 - 1 from by decide]; exact e2
      obtain ⟨n2, en2⟩ : ∃ x, x = mAs m2 9 (upd (mA m2 9) (64 + 4 * W + 1) (nI (tV (tb0 r) T A1))) := ⟨_, rfl⟩
      have p2 : PD m n2 := by rw [en2]; exact ((p1).fr f2).a 9 _ _ (Or.inl ⟨rfl, by omega⟩)
      have hN2 : MT n2 T r := hM.fr (p2.1 3 (by decide)) (p2.2.1 2 (by decide))
      have hRn2 : RW n2 T r (tE (tb0 r) T A1) := by rw [en2]; exact w2
      obtain ⟨A2, hAe2⟩ : ∃ x, x = tE (tb0 r) T A1 := ⟨_, rfl⟩
      rw [← hAe2] at hA2 hB2 hRn2
      have te2 : s8_end s2 = nI A2 := by rw [hAe2]; exact tc2.2.2.1
      obtain ⟨s3, tc3, ok3, bad3⟩ := nextX_t (lo := 0) (H := 10) tc2.1 hA2 te2 (by omega) (by omega)
      refine Decidable.byCases (dec := Classical.propDecidable _) (p := nOK (tb0 r) T 0 10 A2) (fun c3 => ?_) (fun c3 => ?_)
      · have x3 : F_X5_nextNumber s2 0 9 = some (nI (tV (tb0 r) T A2), s3) := by rw [show (9 : Int32) = nI 10 - 1 from by decide]; exact ok3 c3
        have hA3 : tE (tb0 r) T A2 ≤ T := (tE_le (b := tb0 r) hA2).2.1
        have hB3 : a ≤ tE (tb0 r) T A2 := Nat.le_trans hB2 (Nat.le_trans (tS_le (b := tb0 r) hA2).1 (tE_le (b := tb0 r) hA2).1)
        have v3 := tV_lt hA2 c3.1
        obtain ⟨⟨y3, m3⟩, e3, ey3, f3, w3⟩ := numM_ok (m := n2) hN2 hA2 (hRn2) (by omega) (by omega) c3
        simp only [] at ey3 f3 w3
        subst ey3
        have z3 : F_X12_number n2 0 9 = some (nI (tV (tb0 r) T A2), m3) := by rw [show (9 : Int32) = nI 10 - 1 from by decide]; exact e3
        obtain ⟨n3, en3⟩ : ∃ x, x = mAs m3 9 (upd (mA m3 9) (64 + 4 * W + 2) (nI (tV (tb0 r) T A2))) := ⟨_, rfl⟩
        have p3 : PD m n3 := by rw [en3]; exact ((p2).fr f3).a 9 _ _ (Or.inl ⟨rfl, by omega⟩)
        have hN3 : MT n3 T r := hM.fr (p3.1 3 (by decide)) (p3.2.1 2 (by decide))
        have hRn3 : RW n3 T r (tE (tb0 r) T A2) := by rw [en3]; exact w3
        obtain ⟨A3, hAe3⟩ : ∃ x, x = tE (tb0 r) T A2 := ⟨_, rfl⟩
        rw [← hAe3] at hA3 hB3 hRn3
        have te3 : s8_end s3 = nI A3 := by rw [hAe3]; exact tc3.2.2.1
        obtain ⟨s4, tc4, ok4, bad4⟩ := nextX_t (lo := 1) (H := 5) tc3.1 hA3 te3 (by omega) (by omega)
        refine Decidable.byCases (dec := Classical.propDecidable _) (p := nOK (tb0 r) T 1 5 A3) (fun c4 => ?_) (fun c4 => ?_)
        · have x4 : F_X5_nextNumber s3 1 4 = some (nI (tV (tb0 r) T A3), s4) := by rw [show (4 : Int32) = nI 5 - 1 from by decide]; exact ok4 c4
          have hA4 : tE (tb0 r) T A3 ≤ T := (tE_le (b := tb0 r) hA3).2.1
          have hB4 : a ≤ tE (tb0 r) T A3 := Nat.le_trans hB3 (Nat.le_trans (tS_le (b := tb0 r) hA3).1 (tE_le (b := tb0 r) hA3).1)
          have v4 := tV_lt hA3 c4.1
          obtain ⟨⟨y4, m4⟩, e4, ey4, f4, w4⟩ := numM_ok (m := n3) hN3 hA3 (hRn3) (by omega) (by omega) c4
          simp only [] at ey4 f4 w4
          subst ey4
          have z4 : F_X12_number n3 1 4 = some (nI (tV (tb0 r) T A3), m4) := by rw [show (4 : Int32) = nI 5 - 1 from by decide]; exact e4
          obtain ⟨n4, en4⟩ : ∃ x, x = mAs m4 9 (upd (mA m4 9) (64 + 4 * W + 3) (nI (tV (tb0 r) T A3))) := ⟨_, rfl⟩
          have p4 : PD m n4 := by rw [en4]; exact ((p3).fr f4).a 9 _ _ (Or.inl ⟨rfl, by omega⟩)
          have hN4 : MT n4 T r := hM.fr (p4.1 3 (by decide)) (p4.2.1 2 (by decide))
          have hRn4 : RW n4 T r (tE (tb0 r) T A3) := by rw [en4]; exact w4
          obtain ⟨A4, hAe4⟩ : ∃ x, x = tE (tb0 r) T A3 := ⟨_, rfl⟩
          rw [← hAe4] at hA4 hB4 hRn4
          have te4 : s8_end s4 = nI A4 := by rw [hAe4]; exact tc4.2.2.1
          obtain ⟨s5, tc5, ok5, bad5⟩ := stopX_t tc4.1 hA4 te4
          have hm2 : F_X12_readsWord m = some (mIs n4 16 (mI n4 16 + 1)) := by
            rw [href]
            rw [nw_1 z1 (by omega) (by omega), ← en1]
            rw [nw_1 z2 (by omega) (by omega), ← en2]
            rw [nw_1 z3 (by omega) (by omega), ← en3]
            rw [nw_1 z4 (by omega) (by omega), ← en4]
            rw [nm_at]
          have pf : PD m (mIs n4 16 (mI n4 16 + 1)) := p4.i 16 _ (by decide)
          have rf : RW (mIs n4 16 (mI n4 16 + 1)) T r A4 := hRn4
          have cls0 : F_X5_tellWord s t10 = ((F_X5_nextStop s4).bind fun q_10 => (if q_10.1 = 0 then some (0, q_10.2, t10) else (F_X10_add t10 (nI (tV (tb0 r) T a)) (nI (tV (tb0 r) T A1)) (nI (tV (tb0 r) T A2)) (nI (tV (tb0 r) T A3))).bind fun q_11 => some (1, q_10.2, q_11))) := by
            rw [hcls]
            rw [x1, Option.bind_some, nm_at, if_pos (show (0 : Int32) ≤ nI (tV (tb0 r) T a) from nI_pos' (by omega))]
            rw [x2, Option.bind_some, nm_at, if_pos (show (0 : Int32) ≤ nI (tV (tb0 r) T A1) from nI_pos' (by omega))]
            rw [x3, Option.bind_some, nm_at, if_pos (show (0 : Int32) ≤ nI (tV (tb0 r) T A2) from nI_pos' (by omega))]
            rw [x4, Option.bind_some, nm_at, if_neg (show ¬ nI (tV (tb0 r) T A3) < 0 from nI_pos (by omega))]
          have fin_rows : True := trivial
          refine Decidable.byCases (p := tK (tb0 r) T A4 = 3) (fun cs => ?_) (fun cs => ?_)
          · have xs := ok5 cs
            have g1 : mA n1 9 = upd (mA m 9) (64 + 4 * W) (nI (tV (tb0 r) T a)) := by rw [en1, q_aa, if_pos rfl, f1.2.1 9 (by decide)]
            have g2 : mA n2 9 = upd (mA n1 9) (64 + 4 * W + 1) (nI (tV (tb0 r) T A1)) := by rw [en2, q_aa, if_pos rfl, f2.2.1 9 (by decide)]
            have g3 : mA n3 9 = upd (mA n2 9) (64 + 4 * W + 2) (nI (tV (tb0 r) T A2)) := by rw [en3, q_aa, if_pos rfl, f3.2.1 9 (by decide)]
            have g4 : mA n4 9 = upd (mA n3 9) (64 + 4 * W + 3) (nI (tV (tb0 r) T A3)) := by rw [en4, q_aa, if_pos rfl, f4.2.1 9 (by decide)]
            have o10 : mA n4 10 = mA m 10 := by
              rw [en4, q_aa, if_neg (by omega), f4.2.1 10 (by decide)]
              rw [en3, q_aa, if_neg (by omega), f3.2.1 10 (by decide)]
              rw [en2, q_aa, if_neg (by omega), f2.2.1 10 (by decide)]
              rw [en1, q_aa, if_neg (by omega), f1.2.1 10 (by decide)]
            have o11 : mA n4 11 = mA m 11 := by
              rw [en4, q_aa, if_neg (by omega), f4.2.1 11 (by decide)]
              rw [en3, q_aa, if_neg (by omega), f3.2.1 11 (by decide)]
              rw [en2, q_aa, if_neg (by omega), f2.2.1 11 (by decide)]
              rw [en1, q_aa, if_neg (by omega), f1.2.1 11 (by decide)]
            have o12 : mA n4 12 = mA m 12 := by
              rw [en4, q_aa, if_neg (by omega), f4.2.1 12 (by decide)]
              rw [en3, q_aa, if_neg (by omega), f3.2.1 12 (by decide)]
              rw [en2, q_aa, if_neg (by omega), f2.2.1 12 (by decide)]
              rw [en1, q_aa, if_neg (by omega), f1.2.1 12 (by decide)]
            have o20 : mA n4 20 = mA m 20 := by
              rw [en4, q_aa, if_neg (by omega), f4.2.1 20 (by decide)]
              rw [en3, q_aa, if_neg (by omega), f3.2.1 20 (by decide)]
              rw [en2, q_aa, if_neg (by omega), f2.2.1 20 (by decide)]
              rw [en1, q_aa, if_neg (by omega), f1.2.1 20 (by decide)]
            have i16 : mI n4 16 = mI m 16 := by
              rw [en4, q_ia, f4.1 16 (by decide)]
              rw [en3, q_ia, f3.1 16 (by decide)]
              rw [en2, q_ia, f2.1 16 (by decide)]
              rw [en1, q_ia, f1.1 16 (by decide)]
            have i17 : mI n4 17 = mI m 17 := by
              rw [en4, q_ia, f4.1 17 (by decide)]
              rw [en3, q_ia, f3.1 17 (by decide)]
              rw [en2, q_ia, f2.1 17 (by decide)]
              rw [en1, q_ia, f1.1 17 (by decide)]
            have i18 : mI n4 18 = mI m 18 := by
              rw [en4, q_ia, f4.1 18 (by decide)]
              rw [en3, q_ia, f3.1 18 (by decide)]
              rw [en2, q_ia, f2.1 18 (by decide)]
              rw [en1, q_ia, f1.1 18 (by decide)]
            have i19 : mI n4 19 = mI m 19 := by
              rw [en4, q_ia, f4.1 19 (by decide)]
              rw [en3, q_ia, f3.1 19 (by decide)]
              rw [en2, q_ia, f2.1 19 (by decide)]
              rw [en1, q_ia, f1.1 19 (by decide)]
            have gr : ∀ j, mA n4 9 (64 + j) = if j = 4 * W then nI (tV (tb0 r) T a) else if j = 4 * W + 1 then nI (tV (tb0 r) T A1) else if j = 4 * W + 2 then nI (tV (tb0 r) T A2) else if j = 4 * W + 3 then nI (tV (tb0 r) T A3) else mA m 9 (64 + j) := by
              intro j
              rw [g4, g3, g2, g1]
              simp only [u_at]
              by_cases j0 : j = 4 * W
              · simp (disch := omega) only [j0, and_true, true_and, and_false, false_and, or_true, true_or, or_false, false_or, not_true_eq_false, not_false_eq_true, nm_at, Option.bind_some, if_true, if_false, ↓k_m1, ↓k_m2, ↓k_m3, ↓k_m5, ↓k_m9, ↓k_m10, ↓k_mno, k_0, k_1, k_2, k_3, k_4, k_5, k_6, k_7, k_8, k_9, k_10, k_11, k_12, k_13, k_14, k_15, k_16, k_17, k_18, k_19, k_20, k_21, k_22, k_23, k_24, k_25, k_26, k_27, k_28, k_29, k_30, k_31, k_32, k_36, k_48, k_50, k_57, k_58, k_59, k_64, k_97, k_99, k_100, k_101, k_102, k_104, k_105, k_107, k_108, k_109, k_110, k_111, k_114, k_115, k_116, k_119, k_122, k_128, k_255, k_500, k_1000, k_1023, k_10000, k_100000, nI_add, nI_mul, nI_sub, nI_sub0, nI_leI, nI_ltI, nI_eq, nM_lt, nM_le, nM_nlt, nM_nle, nM_ne, nM_ne', nM_eq, q_ii, q_ia, q_ij, q_it, q_aa, q_ai, q_aj, q_at, q_jj, q_ji, q_ja, q_jt, q_tt, q_ti, q_ta, q_tj, u_at, uL_at, Nat.zero_mul, Nat.mul_zero, Nat.one_mul, Nat.mul_one, Nat.zero_add, Nat.add_zero, nI_toInt, agN, asN, agLN, asLN, atvN, setvN, if_pos, if_neg]
              by_cases j1 : j = 4 * W + 1
              · simp (disch := omega) only [j1, and_true, true_and, and_false, false_and, or_true, true_or, or_false, false_or, not_true_eq_false, not_false_eq_true, nm_at, Option.bind_some, if_true, if_false, ↓k_m1, ↓k_m2, ↓k_m3, ↓k_m5, ↓k_m9, ↓k_m10, ↓k_mno, k_0, k_1, k_2, k_3, k_4, k_5, k_6, k_7, k_8, k_9, k_10, k_11, k_12, k_13, k_14, k_15, k_16, k_17, k_18, k_19, k_20, k_21, k_22, k_23, k_24, k_25, k_26, k_27, k_28, k_29, k_30, k_31, k_32, k_36, k_48, k_50, k_57, k_58, k_59, k_64, k_97, k_99, k_100, k_101, k_102, k_104, k_105, k_107, k_108, k_109, k_110, k_111, k_114, k_115, k_116, k_119, k_122, k_128, k_255, k_500, k_1000, k_1023, k_10000, k_100000, nI_add, nI_mul, nI_sub, nI_sub0, nI_leI, nI_ltI, nI_eq, nM_lt, nM_le, nM_nlt, nM_nle, nM_ne, nM_ne', nM_eq, q_ii, q_ia, q_ij, q_it, q_aa, q_ai, q_aj, q_at, q_jj, q_ji, q_ja, q_jt, q_tt, q_ti, q_ta, q_tj, u_at, uL_at, Nat.zero_mul, Nat.mul_zero, Nat.one_mul, Nat.mul_one, Nat.zero_add, Nat.add_zero, nI_toInt, agN, asN, agLN, asLN, atvN, setvN, if_pos, if_neg]
              by_cases j2 : j = 4 * W + 2
              · simp (disch := omega) only [j2, and_true, true_and, and_false, false_and, or_true, true_or, or_false, false_or, not_true_eq_false, not_false_eq_true, nm_at, Option.bind_some, if_true, if_false, ↓k_m1, ↓k_m2, ↓k_m3, ↓k_m5, ↓k_m9, ↓k_m10, ↓k_mno, k_0, k_1, k_2, k_3, k_4, k_5, k_6, k_7, k_8, k_9, k_10, k_11, k_12, k_13, k_14, k_15, k_16, k_17, k_18, k_19, k_20, k_21, k_22, k_23, k_24, k_25, k_26, k_27, k_28, k_29, k_30, k_31, k_32, k_36, k_48, k_50, k_57, k_58, k_59, k_64, k_97, k_99, k_100, k_101, k_102, k_104, k_105, k_107, k_108, k_109, k_110, k_111, k_114, k_115, k_116, k_119, k_122, k_128, k_255, k_500, k_1000, k_1023, k_10000, k_100000, nI_add, nI_mul, nI_sub, nI_sub0, nI_leI, nI_ltI, nI_eq, nM_lt, nM_le, nM_nlt, nM_nle, nM_ne, nM_ne', nM_eq, q_ii, q_ia, q_ij, q_it, q_aa, q_ai, q_aj, q_at, q_jj, q_ji, q_ja, q_jt, q_tt, q_ti, q_ta, q_tj, u_at, uL_at, Nat.zero_mul, Nat.mul_zero, Nat.one_mul, Nat.mul_one, Nat.zero_add, Nat.add_zero, nI_toInt, agN, asN, agLN, asLN, atvN, setvN, if_pos, if_neg]
              by_cases j3 : j = 4 * W + 3
              · simp (disch := omega) only [j3, and_true, true_and, and_false, false_and, or_true, true_or, or_false, false_or, not_true_eq_false, not_false_eq_true, nm_at, Option.bind_some, if_true, if_false, ↓k_m1, ↓k_m2, ↓k_m3, ↓k_m5, ↓k_m9, ↓k_m10, ↓k_mno, k_0, k_1, k_2, k_3, k_4, k_5, k_6, k_7, k_8, k_9, k_10, k_11, k_12, k_13, k_14, k_15, k_16, k_17, k_18, k_19, k_20, k_21, k_22, k_23, k_24, k_25, k_26, k_27, k_28, k_29, k_30, k_31, k_32, k_36, k_48, k_50, k_57, k_58, k_59, k_64, k_97, k_99, k_100, k_101, k_102, k_104, k_105, k_107, k_108, k_109, k_110, k_111, k_114, k_115, k_116, k_119, k_122, k_128, k_255, k_500, k_1000, k_1023, k_10000, k_100000, nI_add, nI_mul, nI_sub, nI_sub0, nI_leI, nI_ltI, nI_eq, nM_lt, nM_le, nM_nlt, nM_nle, nM_ne, nM_ne', nM_eq, q_ii, q_ia, q_ij, q_it, q_aa, q_ai, q_aj, q_at, q_jj, q_ji, q_ja, q_jt, q_tt, q_ti, q_ta, q_tj, u_at, uL_at, Nat.zero_mul, Nat.mul_zero, Nat.one_mul, Nat.mul_one, Nat.zero_add, Nat.add_zero, nI_toInt, agN, asN, agLN, asLN, atvN, setvN, if_pos, if_neg]
              simp (disch := omega) only [and_true, true_and, and_false, false_and, or_true, true_or, or_false, false_or, not_true_eq_false, not_false_eq_true, nm_at, Option.bind_some, if_true, if_false, ↓k_m1, ↓k_m2, ↓k_m3, ↓k_m5, ↓k_m9, ↓k_m10, ↓k_mno, k_0, k_1, k_2, k_3, k_4, k_5, k_6, k_7, k_8, k_9, k_10, k_11, k_12, k_13, k_14, k_15, k_16, k_17, k_18, k_19, k_20, k_21, k_22, k_23, k_24, k_25, k_26, k_27, k_28, k_29, k_30, k_31, k_32, k_36, k_48, k_50, k_57, k_58, k_59, k_64, k_97, k_99, k_100, k_101, k_102, k_104, k_105, k_107, k_108, k_109, k_110, k_111, k_114, k_115, k_116, k_119, k_122, k_128, k_255, k_500, k_1000, k_1023, k_10000, k_100000, nI_add, nI_mul, nI_sub, nI_sub0, nI_leI, nI_ltI, nI_eq, nM_lt, nM_le, nM_nlt, nM_nle, nM_ne, nM_ne', nM_eq, q_ii, q_ia, q_ij, q_it, q_aa, q_ai, q_aj, q_at, q_jj, q_ji, q_ja, q_jt, q_tt, q_ti, q_ta, q_tj, u_at, uL_at, Nat.zero_mul, Nat.mul_zero, Nat.one_mul, Nat.mul_one, Nat.zero_add, Nat.add_zero, nI_toInt, agN, asN, agLN, asLN, atvN, setvN, if_pos, if_neg]
            obtain ⟨t2, ad1, ad2⟩ := add_ok (r2 := fun j => mA n4 9 (64 + j)) dW hW (fun j hj => by show mA n4 9 (64 + j) = _; rw [gr]; simp (disch := omega) only [and_true, true_and, and_false, false_and, or_true, true_or, or_false, false_or, not_true_eq_false, not_false_eq_true, nm_at, Option.bind_some, if_true, if_false, ↓k_m1, ↓k_m2, ↓k_m3, ↓k_m5, ↓k_m9, ↓k_m10, ↓k_mno, k_0, k_1, k_2, k_3, k_4, k_5, k_6, k_7, k_8, k_9, k_10, k_11, k_12, k_13, k_14, k_15, k_16, k_17, k_18, k_19, k_20, k_21, k_22, k_23, k_24, k_25, k_26, k_27, k_28, k_29, k_30, k_31, k_32, k_36, k_48, k_50, k_57, k_58, k_59, k_64, k_97, k_99, k_100, k_101, k_102, k_104, k_105, k_107, k_108, k_109, k_110, k_111, k_114, k_115, k_116, k_119, k_122, k_128, k_255, k_500, k_1000, k_1023, k_10000, k_100000, nI_add, nI_mul, nI_sub, nI_sub0, nI_leI, nI_ltI, nI_eq, nM_lt, nM_le, nM_nlt, nM_nle, nM_ne, nM_ne', nM_eq, q_ii, q_ia, q_ij, q_it, q_aa, q_ai, q_aj, q_at, q_jj, q_ji, q_ja, q_jt, q_tt, q_ti, q_ta, q_tj, u_at, uL_at, Nat.zero_mul, Nat.mul_zero, Nat.one_mul, Nat.mul_one, Nat.zero_add, Nat.add_zero, nI_toInt, agN, asN, agLN, asLN, atvN, setvN, if_pos, if_neg]) (v1 := nI (tV (tb0 r) T a)) (v2 := nI (tV (tb0 r) T A1)) (v3 := nI (tV (tb0 r) T A2)) (v4 := nI (tV (tb0 r) T A3)) (by show mA n4 9 (64 + 4 * W) = _; rw [gr]; simp (disch := omega) only [and_true, true_and, and_false, false_and, or_true, true_or, or_false, false_or, not_true_eq_false, not_false_eq_true, nm_at, Option.bind_some, if_true, if_false, ↓k_m1, ↓k_m2, ↓k_m3, ↓k_m5, ↓k_m9, ↓k_m10, ↓k_mno, k_0, k_1, k_2, k_3, k_4, k_5, k_6, k_7, k_8, k_9, k_10, k_11, k_12, k_13, k_14, k_15, k_16, k_17, k_18, k_19, k_20, k_21, k_22, k_23, k_24, k_25, k_26, k_27, k_28, k_29, k_30, k_31, k_32, k_36, k_48, k_50, k_57, k_58, k_59, k_64, k_97, k_99, k_100, k_101, k_102, k_104, k_105, k_107, k_108, k_109, k_110, k_111, k_114, k_115, k_116, k_119, k_122, k_128, k_255, k_500, k_1000, k_1023, k_10000, k_100000, nI_add, nI_mul, nI_sub, nI_sub0, nI_leI, nI_ltI, nI_eq, nM_lt, nM_le, nM_nlt, nM_nle, nM_ne, nM_ne', nM_eq, q_ii, q_ia, q_ij, q_it, q_aa, q_ai, q_aj, q_at, q_jj, q_ji, q_ja, q_jt, q_tt, q_ti, q_ta, q_tj, u_at, uL_at, Nat.zero_mul, Nat.mul_zero, Nat.one_mul, Nat.mul_one, Nat.zero_add, Nat.add_zero, nI_toInt, agN, asN, agLN, asLN, atvN, setvN, if_pos, if_neg]) (by show mA n4 9 (64 + (4 * W + 1)) = _; rw [gr]; simp (disch := omega) only [and_true, true_and, and_false, false_and, or_true, true_or, or_false, false_or, not_true_eq_false, not_false_eq_true, nm_at, Option.bind_some, if_true, if_false, ↓k_m1, ↓k_m2, ↓k_m3, ↓k_m5, ↓k_m9, ↓k_m10, ↓k_mno, k_0, k_1, k_2, k_3, k_4, k_5, k_6, k_7, k_8, k_9, k_10, k_11, k_12, k_13, k_14, k_15, k_16, k_17, k_18, k_19, k_20, k_21, k_22, k_23, k_24, k_25, k_26, k_27, k_28, k_29, k_30, k_31, k_32, k_36, k_48, k_50, k_57, k_58, k_59, k_64, k_97, k_99, k_100, k_101, k_102, k_104, k_105, k_107, k_108, k_109, k_110, k_111, k_114, k_115, k_116, k_119, k_122, k_128, k_255, k_500, k_1000, k_1023, k_10000, k_100000, nI_add, nI_mul, nI_sub, nI_sub0, nI_leI, nI_ltI, nI_eq, nM_lt, nM_le, nM_nlt, nM_nle, nM_ne, nM_ne', nM_eq, q_ii, q_ia, q_ij, q_it, q_aa, q_ai, q_aj, q_at, q_jj, q_ji, q_ja, q_jt, q_tt, q_ti, q_ta, q_tj, u_at, uL_at, Nat.zero_mul, Nat.mul_zero, Nat.one_mul, Nat.mul_one, Nat.zero_add, Nat.add_zero, nI_toInt, agN, asN, agLN, asLN, atvN, setvN, if_pos, if_neg]) (by show mA n4 9 (64 + (4 * W + 2)) = _; rw [gr]; simp (disch := omega) only [and_true, true_and, and_false, false_and, or_true, true_or, or_false, false_or, not_true_eq_false, not_false_eq_true, nm_at, Option.bind_some, if_true, if_false, ↓k_m1, ↓k_m2, ↓k_m3, ↓k_m5, ↓k_m9, ↓k_m10, ↓k_mno, k_0, k_1, k_2, k_3, k_4, k_5, k_6, k_7, k_8, k_9, k_10, k_11, k_12, k_13, k_14, k_15, k_16, k_17, k_18, k_19, k_20, k_21, k_22, k_23, k_24, k_25, k_26, k_27, k_28, k_29, k_30, k_31, k_32, k_36, k_48, k_50, k_57, k_58, k_59, k_64, k_97, k_99, k_100, k_101, k_102, k_104, k_105, k_107, k_108, k_109, k_110, k_111, k_114, k_115, k_116, k_119, k_122, k_128, k_255, k_500, k_1000, k_1023, k_10000, k_100000, nI_add, nI_mul, nI_sub, nI_sub0, nI_leI, nI_ltI, nI_eq, nM_lt, nM_le, nM_nlt, nM_nle, nM_ne, nM_ne', nM_eq, q_ii, q_ia, q_ij, q_it, q_aa, q_ai, q_aj, q_at, q_jj, q_ji, q_ja, q_jt, q_tt, q_ti, q_ta, q_tj, u_at, uL_at, Nat.zero_mul, Nat.mul_zero, Nat.one_mul, Nat.mul_one, Nat.zero_add, Nat.add_zero, nI_toInt, agN, asN, agLN, asLN, atvN, setvN, if_pos, if_neg]) (by show mA n4 9 (64 + (4 * W + 3)) = _; rw [gr]; simp (disch := omega) only [and_true, true_and, and_false, false_and, or_true, true_or, or_false, false_or, not_true_eq_false, not_false_eq_true, nm_at, Option.bind_some, if_true, if_false, ↓k_m1, ↓k_m2, ↓k_m3, ↓k_m5, ↓k_m9, ↓k_m10, ↓k_mno, k_0, k_1, k_2, k_3, k_4, k_5, k_6, k_7, k_8, k_9, k_10, k_11, k_12, k_13, k_14, k_15, k_16, k_17, k_18, k_19, k_20, k_21, k_22, k_23, k_24, k_25, k_26, k_27, k_28, k_29, k_30, k_31, k_32, k_36, k_48, k_50, k_57, k_58, k_59, k_64, k_97, k_99, k_100, k_101, k_102, k_104, k_105, k_107, k_108, k_109, k_110, k_111, k_114, k_115, k_116, k_119, k_122, k_128, k_255, k_500, k_1000, k_1023, k_10000, k_100000, nI_add, nI_mul, nI_sub, nI_sub0, nI_leI, nI_ltI, nI_eq, nM_lt, nM_le, nM_nlt, nM_nle, nM_ne, nM_ne', nM_eq, q_ii, q_ia, q_ij, q_it, q_aa, q_ai, q_aj, q_at, q_jj, q_ji, q_ja, q_jt, q_tt, q_ti, q_ta, q_tj, u_at, uL_at, Nat.zero_mul, Nat.mul_zero, Nat.one_mul, Nat.mul_one, Nat.zero_add, Nat.add_zero, nI_toInt, agN, asN, agLN, asLN, atvN, setvN, if_pos, if_neg]) ⟨_, c1.2.2, rfl⟩ ⟨_, c2.2.2, rfl⟩ ⟨_, c3.2.2, rfl⟩ ⟨_, c4.2.2, rfl⟩
            refine ⟨1, s5, t2, _, ?_, hm2, pf, tc5.1, Or.inl ⟨A4, hB4, hA4, rf, Or.inl ⟨cs, rfl, tc5.2.2.1, ?_⟩⟩⟩
            · rw [cls0, xs, Option.bind_some, if_neg (show ¬ (1 : Int32) = 0 from by decide), ad1, Option.bind_some]
            · refine ⟨⟨?_, ?_, ?_, ?_⟩, ad2, ?_, ?_, ?_, ?_⟩
              · rw [q_ii, if_pos rfl, i16, d16, nI_1]
              · rw [q_ii, if_neg (by omega), i17]; exact d17
              · rw [q_ii, if_neg (by omega), i19]; exact d19
              · rw [q_ii, if_neg (by omega), i18]; exact d18
              · rw [q_ai, o10]; exact dF
              · rw [q_ai, o11]; exact dM
              · rw [q_ai, o20]; exact dP.mono (by omega)
              · rw [q_ai, o12]; exact dS.mono (by omega)
          · have xs := bad5 cs
            refine ⟨0, s5, t10, _, ?_, hm2, pf, tc5.1, Or.inl ⟨A4, hB4, hA4, rf, Or.inr ⟨cs, rfl, tc5.2.1⟩⟩⟩
            rw [cls0, xs, Option.bind_some, if_pos (show (0 : Int32) = 0 from rfl)]
        · have xb : F_X5_nextNumber s3 1 4 = some (nM 1, s4) := by rw [show (4 : Int32) = nI 5 - 1 from by decide]; exact bad4 c4
          have zb_ : F_X12_number n3 1 4 = some (0, mIs n3 8 (nI (tS (tb0 r) T A3))) := by rw [show (4 : Int32) = nI 5 - 1 from by decide]; exact numM_bad (lo := 1) (H := 5) hA3 h500 hRn3 (by omega) (by omega) c4
          have fl : tS (tb0 r) T A3 < 1000 := by have := (tS_le (b := tb0 r) hA3).2; omega
          obtain ⟨b3, eb3⟩ : ∃ x, x = mAs (mIs n3 8 (nI (tS (tb0 r) T A3))) 9 (upd (mA (mIs n3 8 (nI (tS (tb0 r) T A3))) 9) (64 + 4 * W + 3) 0) := ⟨_, rfl⟩
          have pb3 : PD m b3 := by rw [eb3]; exact ((p3).i 8 _ (by decide)).a 9 _ _ (Or.inl ⟨rfl, by omega⟩)
          have hb3 : mI b3 8 = nI (tS (tb0 r) T A3) := by rw [eb3]; rfl
          refine ⟨0, s4, t10, (mIs b3 16 (mI b3 16 + 1)), ?_, ?_, pb3.i 16 _ (by decide), tc4.1, Or.inr ⟨_, fl, hb3, rfl, tc4.2.1⟩⟩
          · rw [hcls]
            rw [x1, Option.bind_some, nm_at, if_pos (show (0 : Int32) ≤ nI (tV (tb0 r) T a) from nI_pos' (by omega))]
            rw [x2, Option.bind_some, nm_at, if_pos (show (0 : Int32) ≤ nI (tV (tb0 r) T A1) from nI_pos' (by omega))]
            rw [x3, Option.bind_some, nm_at, if_pos (show (0 : Int32) ≤ nI (tV (tb0 r) T A2) from nI_pos' (by omega))]
            rw [xb, Option.bind_some, nm_at, if_pos (show nM 1 < 0 from by decide)]
          · rw [href]
            rw [nw_1 z1 (by omega) (by omega), ← en1]
            rw [nw_1 z2 (by omega) (by omega), ← en2]
            rw [nw_1 z3 (by omega) (by omega), ← en3]
            rw [nw_1 zb_ (by omega) (by omega), ← eb3]
            rw [nm_at]
      · have xb : F_X5_nextNumber s2 0 9 = some (nM 1, s3) := by rw [show (9 : Int32) = nI 10 - 1 from by decide]; exact bad3 c3
        have zb_ : F_X12_number n2 0 9 = some (0, mIs n2 8 (nI (tS (tb0 r) T A2))) := by rw [show (9 : Int32) = nI 10 - 1 from by decide]; exact numM_bad (lo := 0) (H := 10) hA2 h500 hRn2 (by omega) (by omega) c3
        have fl : tS (tb0 r) T A2 < 1000 := by have := (tS_le (b := tb0 r) hA2).2; omega
        obtain ⟨b2, eb2⟩ : ∃ x, x = mAs (mIs n2 8 (nI (tS (tb0 r) T A2))) 9 (upd (mA (mIs n2 8 (nI (tS (tb0 r) T A2))) 9) (64 + 4 * W + 2) 0) := ⟨_, rfl⟩
        have pb2 : PD m b2 := by rw [eb2]; exact ((p2).i 8 _ (by decide)).a 9 _ _ (Or.inl ⟨rfl, by omega⟩)
        have hb2 : mI b2 8 = nI (tS (tb0 r) T A2) := by rw [eb2]; rfl
        obtain ⟨b3, eb3⟩ : ∃ x, x = mAs b2 9 (upd (mA b2 9) (64 + 4 * W + 3) 0) := ⟨_, rfl⟩
        have pb3 : PD m b3 := by rw [eb3]; exact pb2.a 9 _ _ (Or.inl ⟨rfl, by omega⟩)
        have hb3 : mI b3 8 = nI (tS (tb0 r) T A2) := by rw [eb3]; exact hb2
        refine ⟨0, s3, t10, (mIs b3 16 (mI b3 16 + 1)), ?_, ?_, pb3.i 16 _ (by decide), tc3.1, Or.inr ⟨_, fl, hb3, rfl, tc3.2.1⟩⟩
        · rw [hcls]
          rw [x1, Option.bind_some, nm_at, if_pos (show (0 : Int32) ≤ nI (tV (tb0 r) T a) from nI_pos' (by omega))]
          rw [x2, Option.bind_some, nm_at, if_pos (show (0 : Int32) ≤ nI (tV (tb0 r) T A1) from nI_pos' (by omega))]
          rw [xb, Option.bind_some, nm_at, if_neg (show ¬ (0 : Int32) ≤ nM 1 from by decide)]
        · rw [href]
          rw [nw_1 z1 (by omega) (by omega), ← en1]
          rw [nw_1 z2 (by omega) (by omega), ← en2]
          rw [nw_1 zb_ (by omega) (by omega), ← eb2]
          rw [nw_1 (numM_f fl hb2 _ _) (by omega) (by omega), ← eb3]
          rw [nm_at]
    · have xb : F_X5_nextNumber s1 0 25 = some (nM 1, s2) := by rw [show (25 : Int32) = nI 26 - 1 from by decide]; exact bad2 c2
      have zb_ : F_X12_number n1 0 25 = some (0, mIs n1 8 (nI (tS (tb0 r) T A1))) := by rw [show (25 : Int32) = nI 26 - 1 from by decide]; exact numM_bad (lo := 0) (H := 26) hA1 h500 hRn1 (by omega) (by omega) c2
      have fl : tS (tb0 r) T A1 < 1000 := by have := (tS_le (b := tb0 r) hA1).2; omega
      obtain ⟨b1, eb1⟩ : ∃ x, x = mAs (mIs n1 8 (nI (tS (tb0 r) T A1))) 9 (upd (mA (mIs n1 8 (nI (tS (tb0 r) T A1))) 9) (64 + 4 * W + 1) 0) := ⟨_, rfl⟩
      have pb1 : PD m b1 := by rw [eb1]; exact ((p1).i 8 _ (by decide)).a 9 _ _ (Or.inl ⟨rfl, by omega⟩)
      have hb1 : mI b1 8 = nI (tS (tb0 r) T A1) := by rw [eb1]; rfl
      obtain ⟨b2, eb2⟩ : ∃ x, x = mAs b1 9 (upd (mA b1 9) (64 + 4 * W + 2) 0) := ⟨_, rfl⟩
      have pb2 : PD m b2 := by rw [eb2]; exact pb1.a 9 _ _ (Or.inl ⟨rfl, by omega⟩)
      have hb2 : mI b2 8 = nI (tS (tb0 r) T A1) := by rw [eb2]; exact hb1
      obtain ⟨b3, eb3⟩ : ∃ x, x = mAs b2 9 (upd (mA b2 9) (64 + 4 * W + 3) 0) := ⟨_, rfl⟩
      have pb3 : PD m b3 := by rw [eb3]; exact pb2.a 9 _ _ (Or.inl ⟨rfl, by omega⟩)
      have hb3 : mI b3 8 = nI (tS (tb0 r) T A1) := by rw [eb3]; exact hb2
      refine ⟨0, s2, t10, (mIs b3 16 (mI b3 16 + 1)), ?_, ?_, pb3.i 16 _ (by decide), tc2.1, Or.inr ⟨_, fl, hb3, rfl, tc2.2.1⟩⟩
      · rw [hcls]
        rw [x1, Option.bind_some, nm_at, if_pos (show (0 : Int32) ≤ nI (tV (tb0 r) T a) from nI_pos' (by omega))]
        rw [xb, Option.bind_some, nm_at, if_neg (show ¬ (0 : Int32) ≤ nM 1 from by decide)]
      · rw [href]
        rw [nw_1 z1 (by omega) (by omega), ← en1]
        rw [nw_1 zb_ (by omega) (by omega), ← eb1]
        rw [nw_1 (numM_f fl hb1 _ _) (by omega) (by omega), ← eb2]
        rw [nw_1 (numM_f fl hb2 _ _) (by omega) (by omega), ← eb3]
        rw [nm_at]
  · have xb : F_X5_nextNumber s 0 25 = some (nM 1, s1) := by rw [show (25 : Int32) = nI 26 - 1 from by decide]; exact bad1 c1
    have zb_ : F_X12_number m 0 25 = some (0, mIs m 8 (nI (tS (tb0 r) T a))) := by rw [show (25 : Int32) = nI 26 - 1 from by decide]; exact numM_bad (lo := 0) (H := 26) ha h500 hR (by omega) (by omega) c1
    have fl : tS (tb0 r) T a < 1000 := by have := (tS_le (b := tb0 r) ha).2; omega
    obtain ⟨b0, eb0⟩ : ∃ x, x = mAs (mIs m 8 (nI (tS (tb0 r) T a))) 9 (upd (mA (mIs m 8 (nI (tS (tb0 r) T a))) 9) (64 + 4 * W) 0) := ⟨_, rfl⟩
    have pb0 : PD m b0 := by rw [eb0]; exact ((PD.rf m).i 8 _ (by decide)).a 9 _ _ (Or.inl ⟨rfl, by omega⟩)
    have hb0 : mI b0 8 = nI (tS (tb0 r) T a) := by rw [eb0]; rfl
    obtain ⟨b1, eb1⟩ : ∃ x, x = mAs b0 9 (upd (mA b0 9) (64 + 4 * W + 1) 0) := ⟨_, rfl⟩
    have pb1 : PD m b1 := by rw [eb1]; exact pb0.a 9 _ _ (Or.inl ⟨rfl, by omega⟩)
    have hb1 : mI b1 8 = nI (tS (tb0 r) T a) := by rw [eb1]; exact hb0
    obtain ⟨b2, eb2⟩ : ∃ x, x = mAs b1 9 (upd (mA b1 9) (64 + 4 * W + 2) 0) := ⟨_, rfl⟩
    have pb2 : PD m b2 := by rw [eb2]; exact pb1.a 9 _ _ (Or.inl ⟨rfl, by omega⟩)
    have hb2 : mI b2 8 = nI (tS (tb0 r) T a) := by rw [eb2]; exact hb1
    obtain ⟨b3, eb3⟩ : ∃ x, x = mAs b2 9 (upd (mA b2 9) (64 + 4 * W + 3) 0) := ⟨_, rfl⟩
    have pb3 : PD m b3 := by rw [eb3]; exact pb2.a 9 _ _ (Or.inl ⟨rfl, by omega⟩)
    have hb3 : mI b3 8 = nI (tS (tb0 r) T a) := by rw [eb3]; exact hb2
    refine ⟨0, s1, t10, (mIs b3 16 (mI b3 16 + 1)), ?_, ?_, pb3.i 16 _ (by decide), tc1.1, Or.inr ⟨_, fl, hb3, rfl, tc1.2.1⟩⟩
    · rw [hcls]
      rw [xb, Option.bind_some, nm_at, if_neg (show ¬ (0 : Int32) ≤ nM 1 from by decide)]
    · rw [href]
      rw [nw_1 zb_ (by omega) (by omega), ← eb0]
      rw [nw_1 (numM_f fl hb0 _ _) (by omega) (by omega), ← eb1]
      rw [nw_1 (numM_f fl hb1 _ _) (by omega) (by omega), ← eb2]
      rw [nw_1 (numM_f fl hb2 _ _) (by omega) (by omega), ← eb3]
      rw [nm_at]
theorem line_it {s : S8} {m : SM} {T a W F P S : Nat} {r : Nat → Int32} {t7 : S7} {t10 : S10} {t1 : S1} {pp ps : S4} (hs : TX s T r) (ha : a ≤ T) (he : s8_end s = nI a) (hM : MT m T r) (hR : RW m T r a) (hD : DR W F P S t7 t10 t1 pp ps m) (hn : P < 8) : ∃ q1 s2 t2 m2, F_X5_tellLine s t10 pp = some (q1, s2, t2) ∧ F_X12_readsLine_draftLine m (nI (3 * P)) = some m2 ∧ PD m m2 ∧ s4_most t2 = nI 8 ∧ IR T r a q1 s2 m2 (mI m2 19 = nI P ∧ DR W F (P + 1) S t7 t10 t1 t2 ps (mIs m2 19 (nI (P + 1)))) := by
  obtain ⟨⟨d16, d17, d19, d18⟩, dW, dF, dM, dP, dS⟩ := id hD
  have h500 := hs.1
  have hW16 := dW.1
  have hP8 := dP.1
  have hS6 := dS.1
  have hcls : F_X5_tellLine s t10 pp = ((F_X5_nextNumber s 0 (nI W - 1)).bind fun q_3 => nm q_3.1 fun v3_4 => (if 0 ≤ v3_4 then (F_X5_nextNumber q_3.2 0 9).bind fun q_5 => nm q_5.1 fun v4_6 => (if 0 ≤ v4_6 then (F_X5_nextNumber q_5.2 0 16).bind fun q_7 => nm q_7.1 fun v5_8 => (if v5_8 < 0 then some (0, q_7.2, pp) else (F_X5_nextStop q_7.2).bind fun q_9 => (if q_9.1 = 0 then some (0, q_9.2, pp) else (F_X4_size pp).bind fun q_10 => (F_X4_insert pp q_10 v3_4 v4_6 v5_8).bind fun q_11 => some (1, q_9.2, q_11))) else some (0, q_5.2, pp)) else some (0, q_3.2, pp))) := by
    unfold F_X5_tellLine F_X4_isFull F_X10_size
    rw [dP.2.2.1.1, dP.2.1, if_pos (nI_lt hn (by omega)), Option.bind_some, if_pos rfl, Option.bind_some, dW.2.1]
  have href : F_X12_readsLine_draftLine m (nI (3 * P)) = ((F_X12_number m 0 (nI W - 1)).bind fun q_1 => (aset 24 (mA q_1.2 20) (nI (3 * P)) q_1.1).bind fun f_2 => nm (mAs q_1.2 20 f_2) fun s_o_3 => (F_X12_number s_o_3 0 9).bind fun q_4 => (aset 24 (mA q_4.2 20) (nI (3 * P + 1)) q_4.1).bind fun f_5 => nm (mAs q_4.2 20 f_5) fun s_o_6 => (F_X12_number s_o_6 0 16).bind fun q_7 => (aset 24 (mA q_7.2 20) (nI (3 * P + 2)) q_7.1).bind fun f_8 => nm (mAs q_7.2 20 f_8) fun s_o_9 => some (s_o_9)) := by
    unfold F_X12_readsLine_draftLine
    rw [d16, show nI (3 * P) + 1 = nI (3 * P + 1) from nI_add _ 1, show nI (3 * P) + 2 = nI (3 * P + 2) from nI_add _ 2]
  obtain ⟨s1, tc1, ok1, bad1⟩ := nextX_t (lo := 0) (H := W) hs ha he (by omega) (by omega)
  refine Decidable.byCases (dec := Classical.propDecidable _) (p := nOK (tb0 r) T 0 W a) (fun c1 => ?_) (fun c1 => ?_)
  · have x1 : F_X5_nextNumber s 0 (nI W - 1) = some (nI (tV (tb0 r) T a), s1) := by exact ok1 c1
    have hA1 : tE (tb0 r) T a ≤ T := (tE_le (b := tb0 r) ha).2.1
    have hB1 : a ≤ tE (tb0 r) T a := Nat.le_trans (tS_le (b := tb0 r) ha).1 (tE_le (b := tb0 r) ha).1
    have v1 := tV_lt ha c1.1
    obtain ⟨⟨y1, m1⟩, e1, ey1, f1, w1⟩ := numM_ok hM ha hR (by omega) (by omega) c1
    simp only [] at ey1 f1 w1
    subst ey1
    have z1 : F_X12_number m 0 (nI W - 1) = some (nI (tV (tb0 r) T a), m1) := by exact e1
    obtain ⟨n1, en1⟩ : ∃ x, x = mAs m1 20 (upd (mA m1 20) (3 * P) (nI (tV (tb0 r) T a))) := ⟨_, rfl⟩
    have p1 : PD m n1 := by rw [en1]; exact ((PD.rf m).fr f1).a 20 _ _ (Or.inr (Or.inr (Or.inr (Or.inr rfl))))
    have hN1 : MT n1 T r := hM.fr (p1.1 3 (by decide)) (p1.2.1 2 (by decide))
    have hRn1 : RW n1 T r (tE (tb0 r) T a) := by rw [en1]; exact w1
    obtain ⟨A1, hAe1⟩ : ∃ x, x = tE (tb0 r) T a := ⟨_, rfl⟩
    rw [← hAe1] at hA1 hB1 hRn1
    have te1 : s8_end s1 = nI A1 := by rw [hAe1]; exact tc1.2.2.1
    obtain ⟨s2, tc2, ok2, bad2⟩ := nextX_t (lo := 0) (H := 10) tc1.1 hA1 te1 (by omega) (by omega)
    refine Decidable.byCases (dec := Classical.propDecidable _) (p := nOK (tb0 r) T 0 10 A1) (fun c2 => ?_) (fun c2 => ?_)
    · have x2 : F_X5_nextNumber s1 0 9 = some (nI (tV (tb0 r) T A1), s2) := by rw [show (9 : Int32) = nI 10 - 1 from by decide]; exact ok2 c2
      have hA2 : tE (tb0 r) T A1 ≤ T := (tE_le (b := tb0 r) hA1).2.1
      have hB2 : a ≤ tE (tb0 r) T A1 := Nat.le_trans hB1 (Nat.le_trans (tS_le (b := tb0 r) hA1).1 (tE_le (b := tb0 r) hA1).1)
      have v2 := tV_lt hA1 c2.1
      obtain ⟨⟨y2, m2⟩, e2, ey2, f2, w2⟩ := numM_ok (m := n1) hN1 hA1 (hRn1) (by omega) (by omega) c2
      simp only [] at ey2 f2 w2
      subst ey2
      have z2 : F_X12_number n1 0 9 = some (nI (tV (tb0 r) T A1), m2) := by rw [show (9 : Int32) = nI 10 - 1 from by decide]; exact e2
      obtain ⟨n2, en2⟩ : ∃ x, x = mAs m2 20 (upd (mA m2 20) (3 * P + 1) (nI (tV (tb0 r) T A1))) := ⟨_, rfl⟩
      have p2 : PD m n2 := by rw [en2]; exact ((p1).fr f2).a 20 _ _ (Or.inr (Or.inr (Or.inr (Or.inr rfl))))
      have hN2 : MT n2 T r := hM.fr (p2.1 3 (by decide)) (p2.2.1 2 (by decide))
      have hRn2 : RW n2 T r (tE (tb0 r) T A1) := by rw [en2]; exact w2
      obtain ⟨A2, hAe2⟩ : ∃ x, x = tE (tb0 r) T A1 := ⟨_, rfl⟩
      rw [← hAe2] at hA2 hB2 hRn2
      have te2 : s8_end s2 = nI A2 := by rw [hAe2]; exact tc2.2.2.1
      obtain ⟨s3, tc3, ok3, bad3⟩ := nextX_t (lo := 0) (H := 17) tc2.1 hA2 te2 (by omega) (by omega)
      refine Decidable.byCases (dec := Classical.propDecidable _) (p := nOK (tb0 r) T 0 17 A2) (fun c3 => ?_) (fun c3 => ?_)
      · have x3 : F_X5_nextNumber s2 0 16 = some (nI (tV (tb0 r) T A2), s3) := by rw [show (16 : Int32) = nI 17 - 1 from by decide]; exact ok3 c3
        have hA3 : tE (tb0 r) T A2 ≤ T := (tE_le (b := tb0 r) hA2).2.1
        have hB3 : a ≤ tE (tb0 r) T A2 := Nat.le_trans hB2 (Nat.le_trans (tS_le (b := tb0 r) hA2).1 (tE_le (b := tb0 r) hA2).1)
        have v3 := tV_lt hA2 c3.1
        obtain ⟨⟨y3, m3⟩, e3, ey3, f3, w3⟩ := numM_ok (m := n2) hN2 hA2 (hRn2) (by omega) (by omega) c3
        simp only [] at ey3 f3 w3
        subst ey3
        have z3 : F_X12_number n2 0 16 = some (nI (tV (tb0 r) T A2), m3) := by rw [show (16 : Int32) = nI 17 - 1 from by decide]; exact e3
        obtain ⟨n3, en3⟩ : ∃ x, x = mAs m3 20 (upd (mA m3 20) (3 * P + 2) (nI (tV (tb0 r) T A2))) := ⟨_, rfl⟩
        have p3 : PD m n3 := by rw [en3]; exact ((p2).fr f3).a 20 _ _ (Or.inr (Or.inr (Or.inr (Or.inr rfl))))
        have hN3 : MT n3 T r := hM.fr (p3.1 3 (by decide)) (p3.2.1 2 (by decide))
        have hRn3 : RW n3 T r (tE (tb0 r) T A2) := by rw [en3]; exact w3
        obtain ⟨A3, hAe3⟩ : ∃ x, x = tE (tb0 r) T A2 := ⟨_, rfl⟩
        rw [← hAe3] at hA3 hB3 hRn3
        have te3 : s8_end s3 = nI A3 := by rw [hAe3]; exact tc3.2.2.1
        obtain ⟨s4, tc4, ok4, bad4⟩ := stopX_t tc3.1 hA3 te3
        have hm2 : F_X12_readsLine_draftLine m (nI (3 * P)) = some n3 := by
          rw [href]
          rw [nw_1 z1 (by omega) (by omega), ← en1]
          rw [nw_1 z2 (by omega) (by omega), ← en2]
          rw [nw_1 z3 (by omega) (by omega), ← en3]
        have pf : PD m n3 := p3
        have rf : RW n3 T r A3 := hRn3
        have cls0 : F_X5_tellLine s t10 pp = ((F_X5_nextStop s3).bind fun q_10 => (if q_10.1 = 0 then some (0, q_10.2, pp) else (F_X4_size pp).bind fun q_11 => (F_X4_insert pp q_11 (nI (tV (tb0 r) T a)) (nI (tV (tb0 r) T A1)) (nI (tV (tb0 r) T A2))).bind fun q_12 => some (1, q_10.2, q_12))) := by
          rw [hcls]
          rw [x1, Option.bind_some, nm_at, if_pos (show (0 : Int32) ≤ nI (tV (tb0 r) T a) from nI_pos' (by omega))]
          rw [x2, Option.bind_some, nm_at, if_pos (show (0 : Int32) ≤ nI (tV (tb0 r) T A1) from nI_pos' (by omega))]
          rw [x3, Option.bind_some, nm_at, if_neg (show ¬ nI (tV (tb0 r) T A2) < 0 from nI_pos (by omega))]
        have fin_rows : True := trivial
        refine Decidable.byCases (p := tK (tb0 r) T A3 = 3) (fun cs => ?_) (fun cs => ?_)
        · have xs := ok4 cs
          have g1 : mA n1 20 = upd (mA m 20) (3 * P) (nI (tV (tb0 r) T a)) := by rw [en1, q_aa, if_pos rfl, f1.2.1 20 (by decide)]
          have g2 : mA n2 20 = upd (mA n1 20) (3 * P + 1) (nI (tV (tb0 r) T A1)) := by rw [en2, q_aa, if_pos rfl, f2.2.1 20 (by decide)]
          have g3 : mA n3 20 = upd (mA n2 20) (3 * P + 2) (nI (tV (tb0 r) T A2)) := by rw [en3, q_aa, if_pos rfl, f3.2.1 20 (by decide)]
          have o9 : mA n3 9 = mA m 9 := by
            rw [en3, q_aa, if_neg (by omega), f3.2.1 9 (by decide)]
            rw [en2, q_aa, if_neg (by omega), f2.2.1 9 (by decide)]
            rw [en1, q_aa, if_neg (by omega), f1.2.1 9 (by decide)]
          have o10 : mA n3 10 = mA m 10 := by
            rw [en3, q_aa, if_neg (by omega), f3.2.1 10 (by decide)]
            rw [en2, q_aa, if_neg (by omega), f2.2.1 10 (by decide)]
            rw [en1, q_aa, if_neg (by omega), f1.2.1 10 (by decide)]
          have o11 : mA n3 11 = mA m 11 := by
            rw [en3, q_aa, if_neg (by omega), f3.2.1 11 (by decide)]
            rw [en2, q_aa, if_neg (by omega), f2.2.1 11 (by decide)]
            rw [en1, q_aa, if_neg (by omega), f1.2.1 11 (by decide)]
          have o12 : mA n3 12 = mA m 12 := by
            rw [en3, q_aa, if_neg (by omega), f3.2.1 12 (by decide)]
            rw [en2, q_aa, if_neg (by omega), f2.2.1 12 (by decide)]
            rw [en1, q_aa, if_neg (by omega), f1.2.1 12 (by decide)]
          have i16 : mI n3 16 = mI m 16 := by
            rw [en3, q_ia, f3.1 16 (by decide)]
            rw [en2, q_ia, f2.1 16 (by decide)]
            rw [en1, q_ia, f1.1 16 (by decide)]
          have i17 : mI n3 17 = mI m 17 := by
            rw [en3, q_ia, f3.1 17 (by decide)]
            rw [en2, q_ia, f2.1 17 (by decide)]
            rw [en1, q_ia, f1.1 17 (by decide)]
          have i18 : mI n3 18 = mI m 18 := by
            rw [en3, q_ia, f3.1 18 (by decide)]
            rw [en2, q_ia, f2.1 18 (by decide)]
            rw [en1, q_ia, f1.1 18 (by decide)]
          have i19 : mI n3 19 = mI m 19 := by
            rw [en3, q_ia, f3.1 19 (by decide)]
            rw [en2, q_ia, f2.1 19 (by decide)]
            rw [en1, q_ia, f1.1 19 (by decide)]
          have gr : ∀ j, mA n3 20 (j) = if j = 3 * P then nI (tV (tb0 r) T a) else if j = 3 * P + 1 then nI (tV (tb0 r) T A1) else if j = 3 * P + 2 then nI (tV (tb0 r) T A2) else mA m 20 (j) := by
            intro j
            rw [g3, g2, g1]
            simp only [u_at]
            by_cases j0 : j = 3 * P
            · simp (disch := omega) only [j0, and_true, true_and, and_false, false_and, or_true, true_or, or_false, false_or, not_true_eq_false, not_false_eq_true, nm_at, Option.bind_some, if_true, if_false, ↓k_m1, ↓k_m2, ↓k_m3, ↓k_m5, ↓k_m9, ↓k_m10, ↓k_mno, k_0, k_1, k_2, k_3, k_4, k_5, k_6, k_7, k_8, k_9, k_10, k_11, k_12, k_13, k_14, k_15, k_16, k_17, k_18, k_19, k_20, k_21, k_22, k_23, k_24, k_25, k_26, k_27, k_28, k_29, k_30, k_31, k_32, k_36, k_48, k_50, k_57, k_58, k_59, k_64, k_97, k_99, k_100, k_101, k_102, k_104, k_105, k_107, k_108, k_109, k_110, k_111, k_114, k_115, k_116, k_119, k_122, k_128, k_255, k_500, k_1000, k_1023, k_10000, k_100000, nI_add, nI_mul, nI_sub, nI_sub0, nI_leI, nI_ltI, nI_eq, nM_lt, nM_le, nM_nlt, nM_nle, nM_ne, nM_ne', nM_eq, q_ii, q_ia, q_ij, q_it, q_aa, q_ai, q_aj, q_at, q_jj, q_ji, q_ja, q_jt, q_tt, q_ti, q_ta, q_tj, u_at, uL_at, Nat.zero_mul, Nat.mul_zero, Nat.one_mul, Nat.mul_one, Nat.zero_add, Nat.add_zero, nI_toInt, agN, asN, agLN, asLN, atvN, setvN, if_pos, if_neg]
            by_cases j1 : j = 3 * P + 1
            · simp (disch := omega) only [j1, and_true, true_and, and_false, false_and, or_true, true_or, or_false, false_or, not_true_eq_false, not_false_eq_true, nm_at, Option.bind_some, if_true, if_false, ↓k_m1, ↓k_m2, ↓k_m3, ↓k_m5, ↓k_m9, ↓k_m10, ↓k_mno, k_0, k_1, k_2, k_3, k_4, k_5, k_6, k_7, k_8, k_9, k_10, k_11, k_12, k_13, k_14, k_15, k_16, k_17, k_18, k_19, k_20, k_21, k_22, k_23, k_24, k_25, k_26, k_27, k_28, k_29, k_30, k_31, k_32, k_36, k_48, k_50, k_57, k_58, k_59, k_64, k_97, k_99, k_100, k_101, k_102, k_104, k_105, k_107, k_108, k_109, k_110, k_111, k_114, k_115, k_116, k_119, k_122, k_128, k_255, k_500, k_1000, k_1023, k_10000, k_100000, nI_add, nI_mul, nI_sub, nI_sub0, nI_leI, nI_ltI, nI_eq, nM_lt, nM_le, nM_nlt, nM_nle, nM_ne, nM_ne', nM_eq, q_ii, q_ia, q_ij, q_it, q_aa, q_ai, q_aj, q_at, q_jj, q_ji, q_ja, q_jt, q_tt, q_ti, q_ta, q_tj, u_at, uL_at, Nat.zero_mul, Nat.mul_zero, Nat.one_mul, Nat.mul_one, Nat.zero_add, Nat.add_zero, nI_toInt, agN, asN, agLN, asLN, atvN, setvN, if_pos, if_neg]
            by_cases j2 : j = 3 * P + 2
            · simp (disch := omega) only [j2, and_true, true_and, and_false, false_and, or_true, true_or, or_false, false_or, not_true_eq_false, not_false_eq_true, nm_at, Option.bind_some, if_true, if_false, ↓k_m1, ↓k_m2, ↓k_m3, ↓k_m5, ↓k_m9, ↓k_m10, ↓k_mno, k_0, k_1, k_2, k_3, k_4, k_5, k_6, k_7, k_8, k_9, k_10, k_11, k_12, k_13, k_14, k_15, k_16, k_17, k_18, k_19, k_20, k_21, k_22, k_23, k_24, k_25, k_26, k_27, k_28, k_29, k_30, k_31, k_32, k_36, k_48, k_50, k_57, k_58, k_59, k_64, k_97, k_99, k_100, k_101, k_102, k_104, k_105, k_107, k_108, k_109, k_110, k_111, k_114, k_115, k_116, k_119, k_122, k_128, k_255, k_500, k_1000, k_1023, k_10000, k_100000, nI_add, nI_mul, nI_sub, nI_sub0, nI_leI, nI_ltI, nI_eq, nM_lt, nM_le, nM_nlt, nM_nle, nM_ne, nM_ne', nM_eq, q_ii, q_ia, q_ij, q_it, q_aa, q_ai, q_aj, q_at, q_jj, q_ji, q_ja, q_jt, q_tt, q_ti, q_ta, q_tj, u_at, uL_at, Nat.zero_mul, Nat.mul_zero, Nat.one_mul, Nat.mul_one, Nat.zero_add, Nat.add_zero, nI_toInt, agN, asN, agLN, asLN, atvN, setvN, if_pos, if_neg]
            simp (disch := omega) only [and_true, true_and, and_false, false_and, or_true, true_or, or_false, false_or, not_true_eq_false, not_false_eq_true, nm_at, Option.bind_some, if_true, if_false, ↓k_m1, ↓k_m2, ↓k_m3, ↓k_m5, ↓k_m9, ↓k_m10, ↓k_mno, k_0, k_1, k_2, k_3, k_4, k_5, k_6, k_7, k_8, k_9, k_10, k_11, k_12, k_13, k_14, k_15, k_16, k_17, k_18, k_19, k_20, k_21, k_22, k_23, k_24, k_25, k_26, k_27, k_28, k_29, k_30, k_31, k_32, k_36, k_48, k_50, k_57, k_58, k_59, k_64, k_97, k_99, k_100, k_101, k_102, k_104, k_105, k_107, k_108, k_109, k_110, k_111, k_114, k_115, k_116, k_119, k_122, k_128, k_255, k_500, k_1000, k_1023, k_10000, k_100000, nI_add, nI_mul, nI_sub, nI_sub0, nI_leI, nI_ltI, nI_eq, nM_lt, nM_le, nM_nlt, nM_nle, nM_ne, nM_ne', nM_eq, q_ii, q_ia, q_ij, q_it, q_aa, q_ai, q_aj, q_at, q_jj, q_ji, q_ja, q_jt, q_tt, q_ti, q_ta, q_tj, u_at, uL_at, Nat.zero_mul, Nat.mul_zero, Nat.one_mul, Nat.mul_one, Nat.zero_add, Nat.add_zero, nI_toInt, agN, asN, agLN, asLN, atvN, setvN, if_pos, if_neg]
          obtain ⟨t2, ad1, ad2⟩ := dP.ins (by omega) hn (Nat.le_refl P) (a := nI (tV (tb0 r) T a)) (b := nI (tV (tb0 r) T A1)) (c := nI (tV (tb0 r) T A2)) ⟨_, c1.2.2, rfl⟩ ⟨_, c2.2.2, rfl⟩ ⟨_, c3.2.2, rfl⟩
          have ad3 : LR t2 (P + 1) 8 W (fun j => mA n3 20 (j)) := ad2.cg fun j hj => by
            show mA n3 20 (j) = _
            rw [gr]
            unfold insR
            by_cases j0 : j = 3 * P
            · simp (disch := omega) only [j0, and_true, true_and, and_false, false_and, or_true, true_or, or_false, false_or, not_true_eq_false, not_false_eq_true, nm_at, Option.bind_some, if_true, if_false, ↓k_m1, ↓k_m2, ↓k_m3, ↓k_m5, ↓k_m9, ↓k_m10, ↓k_mno, k_0, k_1, k_2, k_3, k_4, k_5, k_6, k_7, k_8, k_9, k_10, k_11, k_12, k_13, k_14, k_15, k_16, k_17, k_18, k_19, k_20, k_21, k_22, k_23, k_24, k_25, k_26, k_27, k_28, k_29, k_30, k_31, k_32, k_36, k_48, k_50, k_57, k_58, k_59, k_64, k_97, k_99, k_100, k_101, k_102, k_104, k_105, k_107, k_108, k_109, k_110, k_111, k_114, k_115, k_116, k_119, k_122, k_128, k_255, k_500, k_1000, k_1023, k_10000, k_100000, nI_add, nI_mul, nI_sub, nI_sub0, nI_leI, nI_ltI, nI_eq, nM_lt, nM_le, nM_nlt, nM_nle, nM_ne, nM_ne', nM_eq, q_ii, q_ia, q_ij, q_it, q_aa, q_ai, q_aj, q_at, q_jj, q_ji, q_ja, q_jt, q_tt, q_ti, q_ta, q_tj, u_at, uL_at, Nat.zero_mul, Nat.mul_zero, Nat.one_mul, Nat.mul_one, Nat.zero_add, Nat.add_zero, nI_toInt, agN, asN, agLN, asLN, atvN, setvN, if_pos, if_neg]
            by_cases j1 : j = 3 * P + 1
            · simp (disch := omega) only [j1, and_true, true_and, and_false, false_and, or_true, true_or, or_false, false_or, not_true_eq_false, not_false_eq_true, nm_at, Option.bind_some, if_true, if_false, ↓k_m1, ↓k_m2, ↓k_m3, ↓k_m5, ↓k_m9, ↓k_m10, ↓k_mno, k_0, k_1, k_2, k_3, k_4, k_5, k_6, k_7, k_8, k_9, k_10, k_11, k_12, k_13, k_14, k_15, k_16, k_17, k_18, k_19, k_20, k_21, k_22, k_23, k_24, k_25, k_26, k_27, k_28, k_29, k_30, k_31, k_32, k_36, k_48, k_50, k_57, k_58, k_59, k_64, k_97, k_99, k_100, k_101, k_102, k_104, k_105, k_107, k_108, k_109, k_110, k_111, k_114, k_115, k_116, k_119, k_122, k_128, k_255, k_500, k_1000, k_1023, k_10000, k_100000, nI_add, nI_mul, nI_sub, nI_sub0, nI_leI, nI_ltI, nI_eq, nM_lt, nM_le, nM_nlt, nM_nle, nM_ne, nM_ne', nM_eq, q_ii, q_ia, q_ij, q_it, q_aa, q_ai, q_aj, q_at, q_jj, q_ji, q_ja, q_jt, q_tt, q_ti, q_ta, q_tj, u_at, uL_at, Nat.zero_mul, Nat.mul_zero, Nat.one_mul, Nat.mul_one, Nat.zero_add, Nat.add_zero, nI_toInt, agN, asN, agLN, asLN, atvN, setvN, if_pos, if_neg]
            by_cases j2 : j = 3 * P + 2
            · simp (disch := omega) only [j2, and_true, true_and, and_false, false_and, or_true, true_or, or_false, false_or, not_true_eq_false, not_false_eq_true, nm_at, Option.bind_some, if_true, if_false, ↓k_m1, ↓k_m2, ↓k_m3, ↓k_m5, ↓k_m9, ↓k_m10, ↓k_mno, k_0, k_1, k_2, k_3, k_4, k_5, k_6, k_7, k_8, k_9, k_10, k_11, k_12, k_13, k_14, k_15, k_16, k_17, k_18, k_19, k_20, k_21, k_22, k_23, k_24, k_25, k_26, k_27, k_28, k_29, k_30, k_31, k_32, k_36, k_48, k_50, k_57, k_58, k_59, k_64, k_97, k_99, k_100, k_101, k_102, k_104, k_105, k_107, k_108, k_109, k_110, k_111, k_114, k_115, k_116, k_119, k_122, k_128, k_255, k_500, k_1000, k_1023, k_10000, k_100000, nI_add, nI_mul, nI_sub, nI_sub0, nI_leI, nI_ltI, nI_eq, nM_lt, nM_le, nM_nlt, nM_nle, nM_ne, nM_ne', nM_eq, q_ii, q_ia, q_ij, q_it, q_aa, q_ai, q_aj, q_at, q_jj, q_ji, q_ja, q_jt, q_tt, q_ti, q_ta, q_tj, u_at, uL_at, Nat.zero_mul, Nat.mul_zero, Nat.one_mul, Nat.mul_one, Nat.zero_add, Nat.add_zero, nI_toInt, agN, asN, agLN, asLN, atvN, setvN, if_pos, if_neg]
            simp (disch := omega) only [and_true, true_and, and_false, false_and, or_true, true_or, or_false, false_or, not_true_eq_false, not_false_eq_true, nm_at, Option.bind_some, if_true, if_false, ↓k_m1, ↓k_m2, ↓k_m3, ↓k_m5, ↓k_m9, ↓k_m10, ↓k_mno, k_0, k_1, k_2, k_3, k_4, k_5, k_6, k_7, k_8, k_9, k_10, k_11, k_12, k_13, k_14, k_15, k_16, k_17, k_18, k_19, k_20, k_21, k_22, k_23, k_24, k_25, k_26, k_27, k_28, k_29, k_30, k_31, k_32, k_36, k_48, k_50, k_57, k_58, k_59, k_64, k_97, k_99, k_100, k_101, k_102, k_104, k_105, k_107, k_108, k_109, k_110, k_111, k_114, k_115, k_116, k_119, k_122, k_128, k_255, k_500, k_1000, k_1023, k_10000, k_100000, nI_add, nI_mul, nI_sub, nI_sub0, nI_leI, nI_ltI, nI_eq, nM_lt, nM_le, nM_nlt, nM_nle, nM_ne, nM_ne', nM_eq, q_ii, q_ia, q_ij, q_it, q_aa, q_ai, q_aj, q_at, q_jj, q_ji, q_ja, q_jt, q_tt, q_ti, q_ta, q_tj, u_at, uL_at, Nat.zero_mul, Nat.mul_zero, Nat.one_mul, Nat.mul_one, Nat.zero_add, Nat.add_zero, nI_toInt, agN, asN, agLN, asLN, atvN, setvN, if_pos, if_neg]
          refine ⟨1, s4, t2, _, ?_, hm2, pf, ad3.2.1, tc4.1, Or.inl ⟨A3, hB3, hA3, rf, Or.inl ⟨cs, rfl, tc4.2.2.1, ?_⟩⟩⟩
          · unfold F_X4_size at cls0
            rw [cls0, xs, Option.bind_some, if_neg (show ¬ (1 : Int32) = 0 from by decide), Option.bind_some, dP.2.2.1.1, ad1, Option.bind_some]
          · refine ⟨i19.trans d19, ⟨?_, ?_, ?_, ?_⟩, ?_, ?_, ?_, ?_, ?_⟩
            · rw [q_ii, if_neg (by omega), i16]; exact d16
            · rw [q_ii, if_neg (by omega), i17]; exact d17
            · rw [q_ii, if_pos rfl]
            · rw [q_ii, if_neg (by omega), i18]; exact d18
            · rw [q_ai, o9]; exact dW
            · rw [q_ai, o10]; exact dF
            · rw [q_ai, o11]; exact dM
            · rw [q_ai]; exact ad3.cg fun j hj => rfl
            · rw [q_ai, o12]; exact dS
        · have xs := bad4 cs
          refine ⟨0, s4, pp, _, ?_, hm2, pf, dP.2.1, tc4.1, Or.inl ⟨A3, hB3, hA3, rf, Or.inr ⟨cs, rfl, tc4.2.1⟩⟩⟩
          rw [cls0, xs, Option.bind_some, if_pos (show (0 : Int32) = 0 from rfl)]
      · have xb : F_X5_nextNumber s2 0 16 = some (nM 1, s3) := by rw [show (16 : Int32) = nI 17 - 1 from by decide]; exact bad3 c3
        have zb_ : F_X12_number n2 0 16 = some (0, mIs n2 8 (nI (tS (tb0 r) T A2))) := by rw [show (16 : Int32) = nI 17 - 1 from by decide]; exact numM_bad (lo := 0) (H := 17) hA2 h500 hRn2 (by omega) (by omega) c3
        have fl : tS (tb0 r) T A2 < 1000 := by have := (tS_le (b := tb0 r) hA2).2; omega
        obtain ⟨b2, eb2⟩ : ∃ x, x = mAs (mIs n2 8 (nI (tS (tb0 r) T A2))) 20 (upd (mA (mIs n2 8 (nI (tS (tb0 r) T A2))) 20) (3 * P + 2) 0) := ⟨_, rfl⟩
        have pb2 : PD m b2 := by rw [eb2]; exact ((p2).i 8 _ (by decide)).a 20 _ _ (Or.inr (Or.inr (Or.inr (Or.inr rfl))))
        have hb2 : mI b2 8 = nI (tS (tb0 r) T A2) := by rw [eb2]; rfl
        refine ⟨0, s3, pp, b2, ?_, ?_, pb2, dP.2.1, tc3.1, Or.inr ⟨_, fl, hb2, rfl, tc3.2.1⟩⟩
        · rw [hcls]
          rw [x1, Option.bind_some, nm_at, if_pos (show (0 : Int32) ≤ nI (tV (tb0 r) T a) from nI_pos' (by omega))]
          rw [x2, Option.bind_some, nm_at, if_pos (show (0 : Int32) ≤ nI (tV (tb0 r) T A1) from nI_pos' (by omega))]
          rw [xb, Option.bind_some, nm_at, if_pos (show nM 1 < 0 from by decide)]
        · rw [href]
          rw [nw_1 z1 (by omega) (by omega), ← en1]
          rw [nw_1 z2 (by omega) (by omega), ← en2]
          rw [nw_1 zb_ (by omega) (by omega), ← eb2]
    · have xb : F_X5_nextNumber s1 0 9 = some (nM 1, s2) := by rw [show (9 : Int32) = nI 10 - 1 from by decide]; exact bad2 c2
      have zb_ : F_X12_number n1 0 9 = some (0, mIs n1 8 (nI (tS (tb0 r) T A1))) := by rw [show (9 : Int32) = nI 10 - 1 from by decide]; exact numM_bad (lo := 0) (H := 10) hA1 h500 hRn1 (by omega) (by omega) c2
      have fl : tS (tb0 r) T A1 < 1000 := by have := (tS_le (b := tb0 r) hA1).2; omega
      obtain ⟨b1, eb1⟩ : ∃ x, x = mAs (mIs n1 8 (nI (tS (tb0 r) T A1))) 20 (upd (mA (mIs n1 8 (nI (tS (tb0 r) T A1))) 20) (3 * P + 1) 0) := ⟨_, rfl⟩
      have pb1 : PD m b1 := by rw [eb1]; exact ((p1).i 8 _ (by decide)).a 20 _ _ (Or.inr (Or.inr (Or.inr (Or.inr rfl))))
      have hb1 : mI b1 8 = nI (tS (tb0 r) T A1) := by rw [eb1]; rfl
      obtain ⟨b2, eb2⟩ : ∃ x, x = mAs b1 20 (upd (mA b1 20) (3 * P + 2) 0) := ⟨_, rfl⟩
      have pb2 : PD m b2 := by rw [eb2]; exact pb1.a 20 _ _ (Or.inr (Or.inr (Or.inr (Or.inr rfl))))
      have hb2 : mI b2 8 = nI (tS (tb0 r) T A1) := by rw [eb2]; exact hb1
      refine ⟨0, s2, pp, b2, ?_, ?_, pb2, dP.2.1, tc2.1, Or.inr ⟨_, fl, hb2, rfl, tc2.2.1⟩⟩
      · rw [hcls]
        rw [x1, Option.bind_some, nm_at, if_pos (show (0 : Int32) ≤ nI (tV (tb0 r) T a) from nI_pos' (by omega))]
        rw [xb, Option.bind_some, nm_at, if_neg (show ¬ (0 : Int32) ≤ nM 1 from by decide)]
      · rw [href]
        rw [nw_1 z1 (by omega) (by omega), ← en1]
        rw [nw_1 zb_ (by omega) (by omega), ← eb1]
        rw [nw_1 (numM_f fl hb1 _ _) (by omega) (by omega), ← eb2]
  · have xb : F_X5_nextNumber s 0 (nI W - 1) = some (nM 1, s1) := by exact bad1 c1
    have zb_ : F_X12_number m 0 (nI W - 1) = some (0, mIs m 8 (nI (tS (tb0 r) T a))) := by exact numM_bad (lo := 0) (H := W) ha h500 hR (by omega) (by omega) c1
    have fl : tS (tb0 r) T a < 1000 := by have := (tS_le (b := tb0 r) ha).2; omega
    obtain ⟨b0, eb0⟩ : ∃ x, x = mAs (mIs m 8 (nI (tS (tb0 r) T a))) 20 (upd (mA (mIs m 8 (nI (tS (tb0 r) T a))) 20) (3 * P) 0) := ⟨_, rfl⟩
    have pb0 : PD m b0 := by rw [eb0]; exact ((PD.rf m).i 8 _ (by decide)).a 20 _ _ (Or.inr (Or.inr (Or.inr (Or.inr rfl))))
    have hb0 : mI b0 8 = nI (tS (tb0 r) T a) := by rw [eb0]; rfl
    obtain ⟨b1, eb1⟩ : ∃ x, x = mAs b0 20 (upd (mA b0 20) (3 * P + 1) 0) := ⟨_, rfl⟩
    have pb1 : PD m b1 := by rw [eb1]; exact pb0.a 20 _ _ (Or.inr (Or.inr (Or.inr (Or.inr rfl))))
    have hb1 : mI b1 8 = nI (tS (tb0 r) T a) := by rw [eb1]; exact hb0
    obtain ⟨b2, eb2⟩ : ∃ x, x = mAs b1 20 (upd (mA b1 20) (3 * P + 2) 0) := ⟨_, rfl⟩
    have pb2 : PD m b2 := by rw [eb2]; exact pb1.a 20 _ _ (Or.inr (Or.inr (Or.inr (Or.inr rfl))))
    have hb2 : mI b2 8 = nI (tS (tb0 r) T a) := by rw [eb2]; exact hb1
    refine ⟨0, s1, pp, b2, ?_, ?_, pb2, dP.2.1, tc1.1, Or.inr ⟨_, fl, hb2, rfl, tc1.2.1⟩⟩
    · rw [hcls]
      rw [xb, Option.bind_some, nm_at, if_neg (show ¬ (0 : Int32) ≤ nM 1 from by decide)]
    · rw [href]
      rw [nw_1 zb_ (by omega) (by omega), ← eb0]
      rw [nw_1 (numM_f fl hb0 _ _) (by omega) (by omega), ← eb1]
      rw [nw_1 (numM_f fl hb1 _ _) (by omega) (by omega), ← eb2]
theorem stock_it {s : S8} {m : SM} {T a W F P S : Nat} {r : Nat → Int32} {t7 : S7} {t10 : S10} {t1 : S1} {pp ps : S4} (hs : TX s T r) (ha : a ≤ T) (he : s8_end s = nI a) (hM : MT m T r) (hR : RW m T r a) (hD : DR W F P S t7 t10 t1 pp ps m) (hn : S < 6) : ∃ q1 s2 t2 m2, F_X5_tellLine s t10 ps = some (q1, s2, t2) ∧ F_X12_readsLine_stock m (nI (18 + 3 * S)) = some m2 ∧ PD m m2 ∧ s4_most t2 = nI 6 ∧ IR T r a q1 s2 m2 (mI m2 18 = nI S ∧ DR W F P (S + 1) t7 t10 t1 pp t2 (mIs m2 18 (nI (S + 1)))) := by
  obtain ⟨⟨d16, d17, d19, d18⟩, dW, dF, dM, dP, dS⟩ := id hD
  have h500 := hs.1
  have hW16 := dW.1
  have hP8 := dP.1
  have hS6 := dS.1
  have hcls : F_X5_tellLine s t10 ps = ((F_X5_nextNumber s 0 (nI W - 1)).bind fun q_3 => nm q_3.1 fun v3_4 => (if 0 ≤ v3_4 then (F_X5_nextNumber q_3.2 0 9).bind fun q_5 => nm q_5.1 fun v4_6 => (if 0 ≤ v4_6 then (F_X5_nextNumber q_5.2 0 16).bind fun q_7 => nm q_7.1 fun v5_8 => (if v5_8 < 0 then some (0, q_7.2, ps) else (F_X5_nextStop q_7.2).bind fun q_9 => (if q_9.1 = 0 then some (0, q_9.2, ps) else (F_X4_size ps).bind fun q_10 => (F_X4_insert ps q_10 v3_4 v4_6 v5_8).bind fun q_11 => some (1, q_9.2, q_11))) else some (0, q_5.2, ps)) else some (0, q_3.2, ps))) := by
    unfold F_X5_tellLine F_X4_isFull F_X10_size
    rw [dS.2.2.1.1, dS.2.1, if_pos (nI_lt hn (by omega)), Option.bind_some, if_pos rfl, Option.bind_some, dW.2.1]
  have href : F_X12_readsLine_stock m (nI (18 + 3 * S)) = ((F_X12_number m 0 (nI W - 1)).bind fun q_1 => (aset 36 (mA q_1.2 12) (nI (18 + 3 * S)) q_1.1).bind fun f_2 => nm (mAs q_1.2 12 f_2) fun s_o_3 => (F_X12_number s_o_3 0 9).bind fun q_4 => (aset 36 (mA q_4.2 12) (nI (18 + 3 * S + 1)) q_4.1).bind fun f_5 => nm (mAs q_4.2 12 f_5) fun s_o_6 => (F_X12_number s_o_6 0 16).bind fun q_7 => (aset 36 (mA q_7.2 12) (nI (18 + 3 * S + 2)) q_7.1).bind fun f_8 => nm (mAs q_7.2 12 f_8) fun s_o_9 => some (s_o_9)) := by
    unfold F_X12_readsLine_stock
    rw [d16, show nI (18 + 3 * S) + 1 = nI (18 + 3 * S + 1) from nI_add _ 1, show nI (18 + 3 * S) + 2 = nI (18 + 3 * S + 2) from nI_add _ 2]
  obtain ⟨s1, tc1, ok1, bad1⟩ := nextX_t (lo := 0) (H := W) hs ha he (by omega) (by omega)
  refine Decidable.byCases (dec := Classical.propDecidable _) (p := nOK (tb0 r) T 0 W a) (fun c1 => ?_) (fun c1 => ?_)
  · have x1 : F_X5_nextNumber s 0 (nI W - 1) = some (nI (tV (tb0 r) T a), s1) := by exact ok1 c1
    have hA1 : tE (tb0 r) T a ≤ T := (tE_le (b := tb0 r) ha).2.1
    have hB1 : a ≤ tE (tb0 r) T a := Nat.le_trans (tS_le (b := tb0 r) ha).1 (tE_le (b := tb0 r) ha).1
    have v1 := tV_lt ha c1.1
    obtain ⟨⟨y1, m1⟩, e1, ey1, f1, w1⟩ := numM_ok hM ha hR (by omega) (by omega) c1
    simp only [] at ey1 f1 w1
    subst ey1
    have z1 : F_X12_number m 0 (nI W - 1) = some (nI (tV (tb0 r) T a), m1) := by exact e1
    obtain ⟨n1, en1⟩ : ∃ x, x = mAs m1 12 (upd (mA m1 12) (18 + 3 * S) (nI (tV (tb0 r) T a))) := ⟨_, rfl⟩
    have p1 : PD m n1 := by rw [en1]; exact ((PD.rf m).fr f1).a 12 _ _ (Or.inr (Or.inr (Or.inr (Or.inl ⟨rfl, by omega⟩))))
    have hN1 : MT n1 T r := hM.fr (p1.1 3 (by decide)) (p1.2.1 2 (by decide))
    have hRn1 : RW n1 T r (tE (tb0 r) T a) := by rw [en1]; exact w1
    obtain ⟨A1, hAe1⟩ : ∃ x, x = tE (tb0 r) T a := ⟨_, rfl⟩
    rw [← hAe1] at hA1 hB1 hRn1
    have te1 : s8_end s1 = nI A1 := by rw [hAe1]; exact tc1.2.2.1
    obtain ⟨s2, tc2, ok2, bad2⟩ := nextX_t (lo := 0) (H := 10) tc1.1 hA1 te1 (by omega) (by omega)
    refine Decidable.byCases (dec := Classical.propDecidable _) (p := nOK (tb0 r) T 0 10 A1) (fun c2 => ?_) (fun c2 => ?_)
    · have x2 : F_X5_nextNumber s1 0 9 = some (nI (tV (tb0 r) T A1), s2) := by rw [show (9 : Int32) = nI 10 - 1 from by decide]; exact ok2 c2
      have hA2 : tE (tb0 r) T A1 ≤ T := (tE_le (b := tb0 r) hA1).2.1
      have hB2 : a ≤ tE (tb0 r) T A1 := Nat.le_trans hB1 (Nat.le_trans (tS_le (b := tb0 r) hA1).1 (tE_le (b := tb0 r) hA1).1)
      have v2 := tV_lt hA1 c2.1
      obtain ⟨⟨y2, m2⟩, e2, ey2, f2, w2⟩ := numM_ok (m := n1) hN1 hA1 (hRn1) (by omega) (by omega) c2
      simp only [] at ey2 f2 w2
      subst ey2
      have z2 : F_X12_number n1 0 9 = some (nI (tV (tb0 r) T A1), m2) := by rw [show (9 : Int32) = nI 10 - 1 from by decide]; exact e2
      obtain ⟨n2, en2⟩ : ∃ x, x = mAs m2 12 (upd (mA m2 12) (18 + 3 * S + 1) (nI (tV (tb0 r) T A1))) := ⟨_, rfl⟩
      have p2 : PD m n2 := by rw [en2]; exact ((p1).fr f2).a 12 _ _ (Or.inr (Or.inr (Or.inr (Or.inl ⟨rfl, by omega⟩))))
      have hN2 : MT n2 T r := hM.fr (p2.1 3 (by decide)) (p2.2.1 2 (by decide))
      have hRn2 : RW n2 T r (tE (tb0 r) T A1) := by rw [en2]; exact w2
      obtain ⟨A2, hAe2⟩ : ∃ x, x = tE (tb0 r) T A1 := ⟨_, rfl⟩
      rw [← hAe2] at hA2 hB2 hRn2
      have te2 : s8_end s2 = nI A2 := by rw [hAe2]; exact tc2.2.2.1
      obtain ⟨s3, tc3, ok3, bad3⟩ := nextX_t (lo := 0) (H := 17) tc2.1 hA2 te2 (by omega) (by omega)
      refine Decidable.byCases (dec := Classical.propDecidable _) (p := nOK (tb0 r) T 0 17 A2) (fun c3 => ?_) (fun c3 => ?_)
      · have x3 : F_X5_nextNumber s2 0 16 = some (nI (tV (tb0 r) T A2), s3) := by rw [show (16 : Int32) = nI 17 - 1 from by decide]; exact ok3 c3
        have hA3 : tE (tb0 r) T A2 ≤ T := (tE_le (b := tb0 r) hA2).2.1
        have hB3 : a ≤ tE (tb0 r) T A2 := Nat.le_trans hB2 (Nat.le_trans (tS_le (b := tb0 r) hA2).1 (tE_le (b := tb0 r) hA2).1)
        have v3 := tV_lt hA2 c3.1
        obtain ⟨⟨y3, m3⟩, e3, ey3, f3, w3⟩ := numM_ok (m := n2) hN2 hA2 (hRn2) (by omega) (by omega) c3
        simp only [] at ey3 f3 w3
        subst ey3
        have z3 : F_X12_number n2 0 16 = some (nI (tV (tb0 r) T A2), m3) := by rw [show (16 : Int32) = nI 17 - 1 from by decide]; exact e3
        obtain ⟨n3, en3⟩ : ∃ x, x = mAs m3 12 (upd (mA m3 12) (18 + 3 * S + 2) (nI (tV (tb0 r) T A2))) := ⟨_, rfl⟩
        have p3 : PD m n3 := by rw [en3]; exact ((p2).fr f3).a 12 _ _ (Or.inr (Or.inr (Or.inr (Or.inl ⟨rfl, by omega⟩))))
        have hN3 : MT n3 T r := hM.fr (p3.1 3 (by decide)) (p3.2.1 2 (by decide))
        have hRn3 : RW n3 T r (tE (tb0 r) T A2) := by rw [en3]; exact w3
        obtain ⟨A3, hAe3⟩ : ∃ x, x = tE (tb0 r) T A2 := ⟨_, rfl⟩
        rw [← hAe3] at hA3 hB3 hRn3
        have te3 : s8_end s3 = nI A3 := by rw [hAe3]; exact tc3.2.2.1
        obtain ⟨s4, tc4, ok4, bad4⟩ := stopX_t tc3.1 hA3 te3
        have hm2 : F_X12_readsLine_stock m (nI (18 + 3 * S)) = some n3 := by
          rw [href]
          rw [nw_1 z1 (by omega) (by omega), ← en1]
          rw [nw_1 z2 (by omega) (by omega), ← en2]
          rw [nw_1 z3 (by omega) (by omega), ← en3]
        have pf : PD m n3 := p3
        have rf : RW n3 T r A3 := hRn3
        have cls0 : F_X5_tellLine s t10 ps = ((F_X5_nextStop s3).bind fun q_10 => (if q_10.1 = 0 then some (0, q_10.2, ps) else (F_X4_size ps).bind fun q_11 => (F_X4_insert ps q_11 (nI (tV (tb0 r) T a)) (nI (tV (tb0 r) T A1)) (nI (tV (tb0 r) T A2))).bind fun q_12 => some (1, q_10.2, q_12))) := by
          rw [hcls]
          rw [x1, Option.bind_some, nm_at, if_pos (show (0 : Int32) ≤ nI (tV (tb0 r) T a) from nI_pos' (by omega))]
          rw [x2, Option.bind_some, nm_at, if_pos (show (0 : Int32) ≤ nI (tV (tb0 r) T A1) from nI_pos' (by omega))]
          rw [x3, Option.bind_some, nm_at, if_neg (show ¬ nI (tV (tb0 r) T A2) < 0 from nI_pos (by omega))]
        have fin_rows : True := trivial
        refine Decidable.byCases (p := tK (tb0 r) T A3 = 3) (fun cs => ?_) (fun cs => ?_)
        · have xs := ok4 cs
          have g1 : mA n1 12 = upd (mA m 12) (18 + 3 * S) (nI (tV (tb0 r) T a)) := by rw [en1, q_aa, if_pos rfl, f1.2.1 12 (by decide)]
          have g2 : mA n2 12 = upd (mA n1 12) (18 + 3 * S + 1) (nI (tV (tb0 r) T A1)) := by rw [en2, q_aa, if_pos rfl, f2.2.1 12 (by decide)]
          have g3 : mA n3 12 = upd (mA n2 12) (18 + 3 * S + 2) (nI (tV (tb0 r) T A2)) := by rw [en3, q_aa, if_pos rfl, f3.2.1 12 (by decide)]
          have o9 : mA n3 9 = mA m 9 := by
            rw [en3, q_aa, if_neg (by omega), f3.2.1 9 (by decide)]
            rw [en2, q_aa, if_neg (by omega), f2.2.1 9 (by decide)]
            rw [en1, q_aa, if_neg (by omega), f1.2.1 9 (by decide)]
          have o10 : mA n3 10 = mA m 10 := by
            rw [en3, q_aa, if_neg (by omega), f3.2.1 10 (by decide)]
            rw [en2, q_aa, if_neg (by omega), f2.2.1 10 (by decide)]
            rw [en1, q_aa, if_neg (by omega), f1.2.1 10 (by decide)]
          have o11 : mA n3 11 = mA m 11 := by
            rw [en3, q_aa, if_neg (by omega), f3.2.1 11 (by decide)]
            rw [en2, q_aa, if_neg (by omega), f2.2.1 11 (by decide)]
            rw [en1, q_aa, if_neg (by omega), f1.2.1 11 (by decide)]
          have o20 : mA n3 20 = mA m 20 := by
            rw [en3, q_aa, if_neg (by omega), f3.2.1 20 (by decide)]
            rw [en2, q_aa, if_neg (by omega), f2.2.1 20 (by decide)]
            rw [en1, q_aa, if_neg (by omega), f1.2.1 20 (by decide)]
          have i16 : mI n3 16 = mI m 16 := by
            rw [en3, q_ia, f3.1 16 (by decide)]
            rw [en2, q_ia, f2.1 16 (by decide)]
            rw [en1, q_ia, f1.1 16 (by decide)]
          have i17 : mI n3 17 = mI m 17 := by
            rw [en3, q_ia, f3.1 17 (by decide)]
            rw [en2, q_ia, f2.1 17 (by decide)]
            rw [en1, q_ia, f1.1 17 (by decide)]
          have i18 : mI n3 18 = mI m 18 := by
            rw [en3, q_ia, f3.1 18 (by decide)]
            rw [en2, q_ia, f2.1 18 (by decide)]
            rw [en1, q_ia, f1.1 18 (by decide)]
          have i19 : mI n3 19 = mI m 19 := by
            rw [en3, q_ia, f3.1 19 (by decide)]
            rw [en2, q_ia, f2.1 19 (by decide)]
            rw [en1, q_ia, f1.1 19 (by decide)]
          have gr : ∀ j, mA n3 12 (18 + j) = if j = 3 * S then nI (tV (tb0 r) T a) else if j = 3 * S + 1 then nI (tV (tb0 r) T A1) else if j = 3 * S + 2 then nI (tV (tb0 r) T A2) else mA m 12 (18 + j) := by
            intro j
            rw [g3, g2, g1]
            simp only [u_at]
            by_cases j0 : j = 3 * S
            · simp (disch := omega) only [j0, and_true, true_and, and_false, false_and, or_true, true_or, or_false, false_or, not_true_eq_false, not_false_eq_true, nm_at, Option.bind_some, if_true, if_false, ↓k_m1, ↓k_m2, ↓k_m3, ↓k_m5, ↓k_m9, ↓k_m10, ↓k_mno, k_0, k_1, k_2, k_3, k_4, k_5, k_6, k_7, k_8, k_9, k_10, k_11, k_12, k_13, k_14, k_15, k_16, k_17, k_18, k_19, k_20, k_21, k_22, k_23, k_24, k_25, k_26, k_27, k_28, k_29, k_30, k_31, k_32, k_36, k_48, k_50, k_57, k_58, k_59, k_64, k_97, k_99, k_100, k_101, k_102, k_104, k_105, k_107, k_108, k_109, k_110, k_111, k_114, k_115, k_116, k_119, k_122, k_128, k_255, k_500, k_1000, k_1023, k_10000, k_100000, nI_add, nI_mul, nI_sub, nI_sub0, nI_leI, nI_ltI, nI_eq, nM_lt, nM_le, nM_nlt, nM_nle, nM_ne, nM_ne', nM_eq, q_ii, q_ia, q_ij, q_it, q_aa, q_ai, q_aj, q_at, q_jj, q_ji, q_ja, q_jt, q_tt, q_ti, q_ta, q_tj, u_at, uL_at, Nat.zero_mul, Nat.mul_zero, Nat.one_mul, Nat.mul_one, Nat.zero_add, Nat.add_zero, nI_toInt, agN, asN, agLN, asLN, atvN, setvN, if_pos, if_neg]
            by_cases j1 : j = 3 * S + 1
            · simp (disch := omega) only [j1, and_true, true_and, and_false, false_and, or_true, true_or, or_false, false_or, not_true_eq_false, not_false_eq_true, nm_at, Option.bind_some, if_true, if_false, ↓k_m1, ↓k_m2, ↓k_m3, ↓k_m5, ↓k_m9, ↓k_m10, ↓k_mno, k_0, k_1, k_2, k_3, k_4, k_5, k_6, k_7, k_8, k_9, k_10, k_11, k_12, k_13, k_14, k_15, k_16, k_17, k_18, k_19, k_20, k_21, k_22, k_23, k_24, k_25, k_26, k_27, k_28, k_29, k_30, k_31, k_32, k_36, k_48, k_50, k_57, k_58, k_59, k_64, k_97, k_99, k_100, k_101, k_102, k_104, k_105, k_107, k_108, k_109, k_110, k_111, k_114, k_115, k_116, k_119, k_122, k_128, k_255, k_500, k_1000, k_1023, k_10000, k_100000, nI_add, nI_mul, nI_sub, nI_sub0, nI_leI, nI_ltI, nI_eq, nM_lt, nM_le, nM_nlt, nM_nle, nM_ne, nM_ne', nM_eq, q_ii, q_ia, q_ij, q_it, q_aa, q_ai, q_aj, q_at, q_jj, q_ji, q_ja, q_jt, q_tt, q_ti, q_ta, q_tj, u_at, uL_at, Nat.zero_mul, Nat.mul_zero, Nat.one_mul, Nat.mul_one, Nat.zero_add, Nat.add_zero, nI_toInt, agN, asN, agLN, asLN, atvN, setvN, if_pos, if_neg]
            by_cases j2 : j = 3 * S + 2
            · simp (disch := omega) only [j2, and_true, true_and, and_false, false_and, or_true, true_or, or_false, false_or, not_true_eq_false, not_false_eq_true, nm_at, Option.bind_some, if_true, if_false, ↓k_m1, ↓k_m2, ↓k_m3, ↓k_m5, ↓k_m9, ↓k_m10, ↓k_mno, k_0, k_1, k_2, k_3, k_4, k_5, k_6, k_7, k_8, k_9, k_10, k_11, k_12, k_13, k_14, k_15, k_16, k_17, k_18, k_19, k_20, k_21, k_22, k_23, k_24, k_25, k_26, k_27, k_28, k_29, k_30, k_31, k_32, k_36, k_48, k_50, k_57, k_58, k_59, k_64, k_97, k_99, k_100, k_101, k_102, k_104, k_105, k_107, k_108, k_109, k_110, k_111, k_114, k_115, k_116, k_119, k_122, k_128, k_255, k_500, k_1000, k_1023, k_10000, k_100000, nI_add, nI_mul, nI_sub, nI_sub0, nI_leI, nI_ltI, nI_eq, nM_lt, nM_le, nM_nlt, nM_nle, nM_ne, nM_ne', nM_eq, q_ii, q_ia, q_ij, q_it, q_aa, q_ai, q_aj, q_at, q_jj, q_ji, q_ja, q_jt, q_tt, q_ti, q_ta, q_tj, u_at, uL_at, Nat.zero_mul, Nat.mul_zero, Nat.one_mul, Nat.mul_one, Nat.zero_add, Nat.add_zero, nI_toInt, agN, asN, agLN, asLN, atvN, setvN, if_pos, if_neg]
            simp (disch := omega) only [and_true, true_and, and_false, false_and, or_true, true_or, or_false, false_or, not_true_eq_false, not_false_eq_true, nm_at, Option.bind_some, if_true, if_false, ↓k_m1, ↓k_m2, ↓k_m3, ↓k_m5, ↓k_m9, ↓k_m10, ↓k_mno, k_0, k_1, k_2, k_3, k_4, k_5, k_6, k_7, k_8, k_9, k_10, k_11, k_12, k_13, k_14, k_15, k_16, k_17, k_18, k_19, k_20, k_21, k_22, k_23, k_24, k_25, k_26, k_27, k_28, k_29, k_30, k_31, k_32, k_36, k_48, k_50, k_57, k_58, k_59, k_64, k_97, k_99, k_100, k_101, k_102, k_104, k_105, k_107, k_108, k_109, k_110, k_111, k_114, k_115, k_116, k_119, k_122, k_128, k_255, k_500, k_1000, k_1023, k_10000, k_100000, nI_add, nI_mul, nI_sub, nI_sub0, nI_leI, nI_ltI, nI_eq, nM_lt, nM_le, nM_nlt, nM_nle, nM_ne, nM_ne', nM_eq, q_ii, q_ia, q_ij, q_it, q_aa, q_ai, q_aj, q_at, q_jj, q_ji, q_ja, q_jt, q_tt, q_ti, q_ta, q_tj, u_at, uL_at, Nat.zero_mul, Nat.mul_zero, Nat.one_mul, Nat.mul_one, Nat.zero_add, Nat.add_zero, nI_toInt, agN, asN, agLN, asLN, atvN, setvN, if_pos, if_neg]
          obtain ⟨t2, ad1, ad2⟩ := dS.ins (by omega) hn (Nat.le_refl S) (a := nI (tV (tb0 r) T a)) (b := nI (tV (tb0 r) T A1)) (c := nI (tV (tb0 r) T A2)) ⟨_, c1.2.2, rfl⟩ ⟨_, c2.2.2, rfl⟩ ⟨_, c3.2.2, rfl⟩
          have ad3 : LR t2 (S + 1) 6 W (fun j => mA n3 12 (18 + j)) := ad2.cg fun j hj => by
            show mA n3 12 (18 + j) = _
            rw [gr]
            unfold insR
            by_cases j0 : j = 3 * S
            · simp (disch := omega) only [j0, and_true, true_and, and_false, false_and, or_true, true_or, or_false, false_or, not_true_eq_false, not_false_eq_true, nm_at, Option.bind_some, if_true, if_false, ↓k_m1, ↓k_m2, ↓k_m3, ↓k_m5, ↓k_m9, ↓k_m10, ↓k_mno, k_0, k_1, k_2, k_3, k_4, k_5, k_6, k_7, k_8, k_9, k_10, k_11, k_12, k_13, k_14, k_15, k_16, k_17, k_18, k_19, k_20, k_21, k_22, k_23, k_24, k_25, k_26, k_27, k_28, k_29, k_30, k_31, k_32, k_36, k_48, k_50, k_57, k_58, k_59, k_64, k_97, k_99, k_100, k_101, k_102, k_104, k_105, k_107, k_108, k_109, k_110, k_111, k_114, k_115, k_116, k_119, k_122, k_128, k_255, k_500, k_1000, k_1023, k_10000, k_100000, nI_add, nI_mul, nI_sub, nI_sub0, nI_leI, nI_ltI, nI_eq, nM_lt, nM_le, nM_nlt, nM_nle, nM_ne, nM_ne', nM_eq, q_ii, q_ia, q_ij, q_it, q_aa, q_ai, q_aj, q_at, q_jj, q_ji, q_ja, q_jt, q_tt, q_ti, q_ta, q_tj, u_at, uL_at, Nat.zero_mul, Nat.mul_zero, Nat.one_mul, Nat.mul_one, Nat.zero_add, Nat.add_zero, nI_toInt, agN, asN, agLN, asLN, atvN, setvN, if_pos, if_neg]
            by_cases j1 : j = 3 * S + 1
            · simp (disch := omega) only [j1, and_true, true_and, and_false, false_and, or_true, true_or, or_false, false_or, not_true_eq_false, not_false_eq_true, nm_at, Option.bind_some, if_true, if_false, ↓k_m1, ↓k_m2, ↓k_m3, ↓k_m5, ↓k_m9, ↓k_m10, ↓k_mno, k_0, k_1, k_2, k_3, k_4, k_5, k_6, k_7, k_8, k_9, k_10, k_11, k_12, k_13, k_14, k_15, k_16, k_17, k_18, k_19, k_20, k_21, k_22, k_23, k_24, k_25, k_26, k_27, k_28, k_29, k_30, k_31, k_32, k_36, k_48, k_50, k_57, k_58, k_59, k_64, k_97, k_99, k_100, k_101, k_102, k_104, k_105, k_107, k_108, k_109, k_110, k_111, k_114, k_115, k_116, k_119, k_122, k_128, k_255, k_500, k_1000, k_1023, k_10000, k_100000, nI_add, nI_mul, nI_sub, nI_sub0, nI_leI, nI_ltI, nI_eq, nM_lt, nM_le, nM_nlt, nM_nle, nM_ne, nM_ne', nM_eq, q_ii, q_ia, q_ij, q_it, q_aa, q_ai, q_aj, q_at, q_jj, q_ji, q_ja, q_jt, q_tt, q_ti, q_ta, q_tj, u_at, uL_at, Nat.zero_mul, Nat.mul_zero, Nat.one_mul, Nat.mul_one, Nat.zero_add, Nat.add_zero, nI_toInt, agN, asN, agLN, asLN, atvN, setvN, if_pos, if_neg]
            by_cases j2 : j = 3 * S + 2
            · simp (disch := omega) only [j2, and_true, true_and, and_false, false_and, or_true, true_or, or_false, false_or, not_true_eq_false, not_false_eq_true, nm_at, Option.bind_some, if_true, if_false, ↓k_m1, ↓k_m2, ↓k_m3, ↓k_m5, ↓k_m9, ↓k_m10, ↓k_mno, k_0, k_1, k_2, k_3, k_4, k_5, k_6, k_7, k_8, k_9, k_10, k_11, k_12, k_13, k_14, k_15, k_16, k_17, k_18, k_19, k_20, k_21, k_22, k_23, k_24, k_25, k_26, k_27, k_28, k_29, k_30, k_31, k_32, k_36, k_48, k_50, k_57, k_58, k_59, k_64, k_97, k_99, k_100, k_101, k_102, k_104, k_105, k_107, k_108, k_109, k_110, k_111, k_114, k_115, k_116, k_119, k_122, k_128, k_255, k_500, k_1000, k_1023, k_10000, k_100000, nI_add, nI_mul, nI_sub, nI_sub0, nI_leI, nI_ltI, nI_eq, nM_lt, nM_le, nM_nlt, nM_nle, nM_ne, nM_ne', nM_eq, q_ii, q_ia, q_ij, q_it, q_aa, q_ai, q_aj, q_at, q_jj, q_ji, q_ja, q_jt, q_tt, q_ti, q_ta, q_tj, u_at, uL_at, Nat.zero_mul, Nat.mul_zero, Nat.one_mul, Nat.mul_one, Nat.zero_add, Nat.add_zero, nI_toInt, agN, asN, agLN, asLN, atvN, setvN, if_pos, if_neg]
            simp (disch := omega) only [and_true, true_and, and_false, false_and, or_true, true_or, or_false, false_or, not_true_eq_false, not_false_eq_true, nm_at, Option.bind_some, if_true, if_false, ↓k_m1, ↓k_m2, ↓k_m3, ↓k_m5, ↓k_m9, ↓k_m10, ↓k_mno, k_0, k_1, k_2, k_3, k_4, k_5, k_6, k_7, k_8, k_9, k_10, k_11, k_12, k_13, k_14, k_15, k_16, k_17, k_18, k_19, k_20, k_21, k_22, k_23, k_24, k_25, k_26, k_27, k_28, k_29, k_30, k_31, k_32, k_36, k_48, k_50, k_57, k_58, k_59, k_64, k_97, k_99, k_100, k_101, k_102, k_104, k_105, k_107, k_108, k_109, k_110, k_111, k_114, k_115, k_116, k_119, k_122, k_128, k_255, k_500, k_1000, k_1023, k_10000, k_100000, nI_add, nI_mul, nI_sub, nI_sub0, nI_leI, nI_ltI, nI_eq, nM_lt, nM_le, nM_nlt, nM_nle, nM_ne, nM_ne', nM_eq, q_ii, q_ia, q_ij, q_it, q_aa, q_ai, q_aj, q_at, q_jj, q_ji, q_ja, q_jt, q_tt, q_ti, q_ta, q_tj, u_at, uL_at, Nat.zero_mul, Nat.mul_zero, Nat.one_mul, Nat.mul_one, Nat.zero_add, Nat.add_zero, nI_toInt, agN, asN, agLN, asLN, atvN, setvN, if_pos, if_neg]
          refine ⟨1, s4, t2, _, ?_, hm2, pf, ad3.2.1, tc4.1, Or.inl ⟨A3, hB3, hA3, rf, Or.inl ⟨cs, rfl, tc4.2.2.1, ?_⟩⟩⟩
          · unfold F_X4_size at cls0
            rw [cls0, xs, Option.bind_some, if_neg (show ¬ (1 : Int32) = 0 from by decide), Option.bind_some, dS.2.2.1.1, ad1, Option.bind_some]
          · refine ⟨i18.trans d18, ⟨?_, ?_, ?_, ?_⟩, ?_, ?_, ?_, ?_, ?_⟩
            · rw [q_ii, if_neg (by omega), i16]; exact d16
            · rw [q_ii, if_neg (by omega), i17]; exact d17
            · rw [q_ii, if_neg (by omega), i19]; exact d19
            · rw [q_ii, if_pos rfl]
            · rw [q_ai, o9]; exact dW
            · rw [q_ai, o10]; exact dF
            · rw [q_ai, o11]; exact dM
            · rw [q_ai, o20]; exact dP
            · rw [q_ai]; exact ad3
        · have xs := bad4 cs
          refine ⟨0, s4, ps, _, ?_, hm2, pf, dS.2.1, tc4.1, Or.inl ⟨A3, hB3, hA3, rf, Or.inr ⟨cs, rfl, tc4.2.1⟩⟩⟩
          rw [cls0, xs, Option.bind_some, if_pos (show (0 : Int32) = 0 from rfl)]
      · have xb : F_X5_nextNumber s2 0 16 = some (nM 1, s3) := by rw [show (16 : Int32) = nI 17 - 1 from by decide]; exact bad3 c3
        have zb_ : F_X12_number n2 0 16 = some (0, mIs n2 8 (nI (tS (tb0 r) T A2))) := by rw [show (16 : Int32) = nI 17 - 1 from by decide]; exact numM_bad (lo := 0) (H := 17) hA2 h500 hRn2 (by omega) (by omega) c3
        have fl : tS (tb0 r) T A2 < 1000 := by have := (tS_le (b := tb0 r) hA2).2; omega
        obtain ⟨b2, eb2⟩ : ∃ x, x = mAs (mIs n2 8 (nI (tS (tb0 r) T A2))) 12 (upd (mA (mIs n2 8 (nI (tS (tb0 r) T A2))) 12) (18 + 3 * S + 2) 0) := ⟨_, rfl⟩
        have pb2 : PD m b2 := by rw [eb2]; exact ((p2).i 8 _ (by decide)).a 12 _ _ (Or.inr (Or.inr (Or.inr (Or.inl ⟨rfl, by omega⟩))))
        have hb2 : mI b2 8 = nI (tS (tb0 r) T A2) := by rw [eb2]; rfl
        refine ⟨0, s3, ps, b2, ?_, ?_, pb2, dS.2.1, tc3.1, Or.inr ⟨_, fl, hb2, rfl, tc3.2.1⟩⟩
        · rw [hcls]
          rw [x1, Option.bind_some, nm_at, if_pos (show (0 : Int32) ≤ nI (tV (tb0 r) T a) from nI_pos' (by omega))]
          rw [x2, Option.bind_some, nm_at, if_pos (show (0 : Int32) ≤ nI (tV (tb0 r) T A1) from nI_pos' (by omega))]
          rw [xb, Option.bind_some, nm_at, if_pos (show nM 1 < 0 from by decide)]
        · rw [href]
          rw [nw_1 z1 (by omega) (by omega), ← en1]
          rw [nw_1 z2 (by omega) (by omega), ← en2]
          rw [nw_1 zb_ (by omega) (by omega), ← eb2]
    · have xb : F_X5_nextNumber s1 0 9 = some (nM 1, s2) := by rw [show (9 : Int32) = nI 10 - 1 from by decide]; exact bad2 c2
      have zb_ : F_X12_number n1 0 9 = some (0, mIs n1 8 (nI (tS (tb0 r) T A1))) := by rw [show (9 : Int32) = nI 10 - 1 from by decide]; exact numM_bad (lo := 0) (H := 10) hA1 h500 hRn1 (by omega) (by omega) c2
      have fl : tS (tb0 r) T A1 < 1000 := by have := (tS_le (b := tb0 r) hA1).2; omega
      obtain ⟨b1, eb1⟩ : ∃ x, x = mAs (mIs n1 8 (nI (tS (tb0 r) T A1))) 12 (upd (mA (mIs n1 8 (nI (tS (tb0 r) T A1))) 12) (18 + 3 * S + 1) 0) := ⟨_, rfl⟩
      have pb1 : PD m b1 := by rw [eb1]; exact ((p1).i 8 _ (by decide)).a 12 _ _ (Or.inr (Or.inr (Or.inr (Or.inl ⟨rfl, by omega⟩))))
      have hb1 : mI b1 8 = nI (tS (tb0 r) T A1) := by rw [eb1]; rfl
      obtain ⟨b2, eb2⟩ : ∃ x, x = mAs b1 12 (upd (mA b1 12) (18 + 3 * S + 2) 0) := ⟨_, rfl⟩
      have pb2 : PD m b2 := by rw [eb2]; exact pb1.a 12 _ _ (Or.inr (Or.inr (Or.inr (Or.inl ⟨rfl, by omega⟩))))
      have hb2 : mI b2 8 = nI (tS (tb0 r) T A1) := by rw [eb2]; exact hb1
      refine ⟨0, s2, ps, b2, ?_, ?_, pb2, dS.2.1, tc2.1, Or.inr ⟨_, fl, hb2, rfl, tc2.2.1⟩⟩
      · rw [hcls]
        rw [x1, Option.bind_some, nm_at, if_pos (show (0 : Int32) ≤ nI (tV (tb0 r) T a) from nI_pos' (by omega))]
        rw [xb, Option.bind_some, nm_at, if_neg (show ¬ (0 : Int32) ≤ nM 1 from by decide)]
      · rw [href]
        rw [nw_1 z1 (by omega) (by omega), ← en1]
        rw [nw_1 zb_ (by omega) (by omega), ← eb1]
        rw [nw_1 (numM_f fl hb1 _ _) (by omega) (by omega), ← eb2]
  · have xb : F_X5_nextNumber s 0 (nI W - 1) = some (nM 1, s1) := by exact bad1 c1
    have zb_ : F_X12_number m 0 (nI W - 1) = some (0, mIs m 8 (nI (tS (tb0 r) T a))) := by exact numM_bad (lo := 0) (H := W) ha h500 hR (by omega) (by omega) c1
    have fl : tS (tb0 r) T a < 1000 := by have := (tS_le (b := tb0 r) ha).2; omega
    obtain ⟨b0, eb0⟩ : ∃ x, x = mAs (mIs m 8 (nI (tS (tb0 r) T a))) 12 (upd (mA (mIs m 8 (nI (tS (tb0 r) T a))) 12) (18 + 3 * S) 0) := ⟨_, rfl⟩
    have pb0 : PD m b0 := by rw [eb0]; exact ((PD.rf m).i 8 _ (by decide)).a 12 _ _ (Or.inr (Or.inr (Or.inr (Or.inl ⟨rfl, by omega⟩))))
    have hb0 : mI b0 8 = nI (tS (tb0 r) T a) := by rw [eb0]; rfl
    obtain ⟨b1, eb1⟩ : ∃ x, x = mAs b0 12 (upd (mA b0 12) (18 + 3 * S + 1) 0) := ⟨_, rfl⟩
    have pb1 : PD m b1 := by rw [eb1]; exact pb0.a 12 _ _ (Or.inr (Or.inr (Or.inr (Or.inl ⟨rfl, by omega⟩))))
    have hb1 : mI b1 8 = nI (tS (tb0 r) T a) := by rw [eb1]; exact hb0
    obtain ⟨b2, eb2⟩ : ∃ x, x = mAs b1 12 (upd (mA b1 12) (18 + 3 * S + 2) 0) := ⟨_, rfl⟩
    have pb2 : PD m b2 := by rw [eb2]; exact pb1.a 12 _ _ (Or.inr (Or.inr (Or.inr (Or.inl ⟨rfl, by omega⟩))))
    have hb2 : mI b2 8 = nI (tS (tb0 r) T a) := by rw [eb2]; exact hb1
    refine ⟨0, s1, ps, b2, ?_, ?_, pb2, dS.2.1, tc1.1, Or.inr ⟨_, fl, hb2, rfl, tc1.2.1⟩⟩
    · rw [hcls]
      rw [xb, Option.bind_some, nm_at, if_neg (show ¬ (0 : Int32) ≤ nM 1 from by decide)]
    · rw [href]
      rw [nw_1 zb_ (by omega) (by omega), ← eb0]
      rw [nw_1 (numM_f fl hb0 _ _) (by omega) (by omega), ← eb1]
      rw [nw_1 (numM_f fl hb1 _ _) (by omega) (by omega), ← eb2]
