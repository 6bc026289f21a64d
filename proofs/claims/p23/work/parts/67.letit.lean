/-! ===== items with letters ===== -/
theorem nextW_t {s : S8} {T a lo H : Nat} {r : Nat → Int32} (h : TX s T r) (ha : a ≤ T) (he : s8_end s = nI a) (hlo : lo < 2) (hH : H < 100) {x y : Int32} (ex : x = nI lo) (ey : y = nI H - 1) : ∃ s', TC s' T r a ∧ (nOK (tb0 r) T lo H a → F_X5_nextNumber s x y = some (nI (tV (tb0 r) T a), s')) ∧ (¬ nOK (tb0 r) T lo H a → F_X5_nextNumber s x y = some (nM 1, s')) := by
  subst ex ey
  exact nextX_t h ha he hlo hH
theorem metre_it {s : S8} {m : SM} {T a W F P S : Nat} {r : Nat → Int32} {t7 : S7} {t10 : S10} {t1 : S1} {pp ps : S4} (hs : TX s T r) (ha : a ≤ T) (he : s8_end s = nI a) (hM : MT m T r) (hR : RW m T r a) (hD : DR W F P S t7 t10 t1 pp ps m) : ∃ q1 s2 t2 m2, F_X5_tellMetre s t7 = some (q1, s2, t2) ∧ F_X12_readsMetre m = some m2 ∧ PD m m2 ∧ IR T r a q1 s2 m2 (DR W F P S t2 t10 t1 pp ps m2) := by
  have h500 := hs.1
  have hS := tS_le (b := tb0 r) ha
  have hE := tE_le (b := tb0 r) ha
  obtain ⟨s1, e1, tc1⟩ := advance_t hs ha he
  have el := letters_t ha tc1
  obtain ⟨x, ex, hx⟩ := areL_t hM ha hR.1 (most := 1) (by omega)
  have fl1 : tS (tb0 r) T a < 1000 := by omega
  rcases is01_cases hx with ⟨x0, nl⟩ | ⟨x1, yl⟩
  · -- no letter of a form stands there
    have fault : mI (mIs m 8 (nI (tS (tb0 r) T a))) 8 = nI (tS (tb0 r) T a) := by rw [q_ii, if_pos rfl]
    have href : F_X12_readsMetre m = some (mIs m 8 (nI (tS (tb0 r) T a))) := by
      unfold F_X12_readsMetre F_X12_readsMetre_b31 F_X12_readsMetre_b43
      rw [show F_X12_areLetters m 1 = some x from ex, Option.bind_some, x0, show F_X12_wants m (nI 0) = some (mIs m 8 (mI m 6)) from wants_0 hR.2, Option.bind_some, hR.1.1, well_0 fl1 fault, Option.bind_some, if_pos rfl, nm_at, Option.bind_some, if_pos rfl, numM_f fl1 fault, Option.bind_some, nm_at]
      show ((F_X12_isWell (mIs m 8 (nI (tS (tb0 r) T a)))).bind fun q_3 => _) = _
      rw [well_0 fl1 fault, Option.bind_some, if_pos rfl]
    have hcls : F_X5_tellMetre s t7 = some (0, s1, t7) := by
      unfold F_X5_tellMetre
      rw [e1, Option.bind_some, el, Option.bind_some]
      by_cases k1 : tK (tb0 r) T a = 1
      · rw [if_pos k1]
        obtain ⟨l1, l2⟩ := tok_let ha k1
        by_cases k2 : tE (tb0 r) T a - tS (tb0 r) T a = 1
        · rw [if_pos (show nI (tE (tb0 r) T a - tS (tb0 r) T a) = 1 from by rw [k2]; rfl)]
          have l0 := letterAt_t ha tc1 k1 (i := 0) (by omega)
          rw [show F_X8_letterAt s1 0 = _ from l0, Option.bind_some]
          have := l2 0 (by omega)
          rw [if_neg]
          rw [show (8 : Int32) = nI 8 from rfl, nI_ltI (by omega) (by omega)]
          intro z
          refine nl ⟨k1, by omega, fun i hi => ?_⟩
          rw [show i = 0 from by omega]; exact z
        · rw [if_neg (show ¬ nI (tE (tb0 r) T a - tS (tb0 r) T a) = 1 from by rw [show (1 : Int32) = nI 1 from rfl, nI_eq (by omega) (by omega)]; exact k2)]
      · rw [if_neg k1, if_neg (show ¬ nI 0 = 1 from by decide)]
    exact ⟨0, s1, t7, _, hcls, href, (PD.rf m).i 8 _ (by decide), tc1.1, Or.inr ⟨_, fl1, fault, rfl, tc1.2.1⟩⟩
  · obtain ⟨k1, k2, k3⟩ := yl
    obtain ⟨l1, l2⟩ := tok_let ha k1
    have k4 : tE (tb0 r) T a - tS (tb0 r) T a = 1 := by omega
    have l0 := letterAt_t ha tc1 k1 (i := 0) (by omega)
    have l3 := l2 0 (by omega)
    have l4 := k3 0 (by omega)
    rw [Nat.add_zero] at l3 l4 l0
    obtain ⟨l, hl⟩ : ∃ l, l = tb0 r (tS (tb0 r) T a) - 97 := ⟨_, rfl⟩
    rw [← hl] at l0 l4
    -- the reference goes on to the number
    have hby : F_X12_byteAt m (mI m 6) = some (nI (tb0 r (tS (tb0 r) T a))) := by
      rw [hR.1.1, byteM_t hM (by omega), if_pos (by omega)]
    obtain ⟨m1, f1, f2, f3⟩ := advM_t hM hE.2.1 hR.1.2.1
    have w1 : RW m1 T r (tE (tb0 r) T a) := ⟨f3, (f2.1 8 (by decide)).trans hR.2⟩
    have hM1 := hM.f f2
    have href : F_X12_readsMetre m = F_X12_readsMetre_b43 (nI l) m1 := by
      unfold F_X12_readsMetre F_X12_readsMetre_b31
      rw [show F_X12_areLetters m 1 = some x from ex, Option.bind_some, x1, wants_1 (nI 1) (by decide) hR.2, Option.bind_some, well_1 hR.2, Option.bind_some, if_neg (by decide), hby, Option.bind_some, nm_at, Option.bind_some, if_neg (by decide), f1, Option.bind_some, show nI (tb0 r (tS (tb0 r) T a)) - 97 = nI l from by rw [hl]; exact nI_sub (a := tb0 r (tS (tb0 r) T a)) (b := 97) l3.1]
    have hcls : F_X5_tellMetre s t7 = ((F_X5_nextNumber s1 0 20).bind fun q_6 => nm q_6.1 fun v3_7 => (if v3_7 < 0 then some (0, q_6.2, t7) else (F_X5_nextStop q_6.2).bind fun q_8 => (if q_8.1 = 0 then some (0, q_8.2, t7) else (F_X7_setMetre t7 (nI l) v3_7).bind fun q_9 => some (1, q_8.2, q_9)))) := by
      unfold F_X5_tellMetre
      rw [e1, Option.bind_some, el, Option.bind_some, if_pos k1, if_pos (show nI (tE (tb0 r) T a - tS (tb0 r) T a) = 1 from by rw [k4]; rfl), show F_X8_letterAt s1 0 = _ from l0, Option.bind_some, if_pos (show nI l < 8 from nI_lt (b := 8) l4 (by omega)), Option.bind_some, nm_at]
    have te1 := tc1.2.2.1
    obtain ⟨A1, hA⟩ : ∃ A1, A1 = tE (tb0 r) T a := ⟨_, rfl⟩
    rw [← hA] at w1 te1
    have hA1 : A1 ≤ T := by omega
    obtain ⟨s2, tc2, ok2, bad2⟩ := nextW_t (lo := 0) (H := 21) tc1.1 hA1 te1 (by omega) (by omega) (x := 0) (y := 20) rfl (by decide)
    have e20 : (20 : Int32) = nI 21 - 1 := by decide
    refine Decidable.byCases (dec := Classical.propDecidable _) (p := nOK (tb0 r) T 0 21 A1) (fun c => ?_) (fun c => ?_)
    · have v1 := tV_lt hA1 c.1
      obtain ⟨⟨y, m2⟩, g1, gy, g2, g3⟩ := numM_ok hM1 hA1 w1 (by omega) (by omega) c
      simp only [] at gy g2 g3
      subst gy
      have href2 : F_X12_readsMetre m = some (mAs m2 11 (upd (mA m2 11) (8 + l) (nI (tV (tb0 r) T A1)))) := by
        rw [href]
        unfold F_X12_readsMetre_b43
        rw [e20, show F_X12_number m1 0 (nI 21 - 1) = _ from g1, Option.bind_some, nm_at]
        show ((F_X12_isWell m2).bind fun q_3 => _) = _
        rw [well_1 g3.2, Option.bind_some, if_neg (by decide), show (8 : Int32) + nI l = nI (8 + l) from nI_add 8 l, asN _ (by omega) (by omega), Option.bind_some, nm_at]
      have pd : PD m (mAs m2 11 (upd (mA m2 11) (8 + l) (nI (tV (tb0 r) T A1)))) := (((PD.rf m).fr f2).fr g2).a 11 _ _ (Or.inr (Or.inr (Or.inl ⟨rfl, by omega⟩)))
      have hA2 := (tE_le (b := tb0 r) hA1).2.1
      have hB2 : a ≤ tE (tb0 r) T A1 := by
        have := (tE_le (b := tb0 r) hA1).1
        have := (tS_le (b := tb0 r) hA1).1
        omega
      obtain ⟨s3, tc3, ok3, bad3⟩ := stopX_t tc2.1 hA2 tc2.2.2.1
      have hcls2 : F_X5_tellMetre s t7 = ((F_X5_nextStop s2).bind fun q_8 => (if q_8.1 = 0 then some (0, q_8.2, t7) else (F_X7_setMetre t7 (nI l) (nI (tV (tb0 r) T A1))).bind fun q_9 => some (1, q_8.2, q_9))) := by
        rw [hcls, ok2 c, Option.bind_some, nm_at, if_neg (show ¬ nI (tV (tb0 r) T A1) < 0 from nI_pos (by omega))]
      refine Decidable.byCases (p := tK (tb0 r) T (tE (tb0 r) T A1) = 3) (fun cs => ?_) (fun cs => ?_)
      · refine ⟨1, s3, upd t7 l (nI (tV (tb0 r) T A1)), _, ?_, href2, pd, tc3.1, Or.inl ⟨_, hB2, hA2, g3, Or.inl ⟨cs, rfl, tc3.2.2.1, ?_⟩⟩⟩
        · rw [hcls2, ok3 cs, Option.bind_some, if_neg (show ¬ (1 : Int32) = 0 from by decide), setMetre_t, Option.bind_some, setvN l4 (by omega)]
          rfl
        · obtain ⟨⟨d16, d17, d19, d18⟩, dW, dF, dM, dP, dS⟩ := hD
          have fr2 : Fr kI [] [] m m2 := f2.tr g2
          refine ⟨⟨?_, ?_, ?_, ?_⟩, ?_, ?_, ?_, ?_, ?_⟩
          · rw [q_ia, fr2.1 16 (by decide)]; exact d16
          · rw [q_ia, fr2.1 17 (by decide)]; exact d17
          · rw [q_ia, fr2.1 19 (by decide)]; exact d19
          · rw [q_ia, fr2.1 18 (by decide)]; exact d18
          · rw [q_aa, if_neg (by omega), fr2.2.1 9 (by decide)]; exact dW
          · rw [q_aa, if_neg (by omega), fr2.2.1 10 (by decide)]; exact dF
          · rw [q_aa, if_pos rfl, fr2.2.1 11 (by decide)]
            intro j hj
            show Lb (upd (mA m 11) (8 + l) (nI (tV (tb0 r) T A1)) (8 + j)) 21 ∧ upd t7 l (nI (tV (tb0 r) T A1)) j = upd (mA m 11) (8 + l) (nI (tV (tb0 r) T A1)) (8 + j)
            rw [u_at, u_at]
            by_cases g : j = l
            · rw [if_pos (by omega), if_pos g]; exact ⟨⟨_, c.2.2, rfl⟩, rfl⟩
            · rw [if_neg (by omega), if_neg g]; exact dM j hj
          · rw [q_aa, if_neg (by omega), fr2.2.1 20 (by decide)]; exact dP
          · rw [q_aa, if_neg (by omega), fr2.2.1 12 (by decide)]; exact dS
      · refine ⟨0, s3, t7, _, ?_, href2, pd, tc3.1, Or.inl ⟨_, hB2, hA2, g3, Or.inr ⟨cs, rfl, tc3.2.1⟩⟩⟩
        rw [hcls2, bad3 cs, Option.bind_some, if_pos (show (0 : Int32) = 0 from rfl)]
    · have fl : tS (tb0 r) T A1 < 1000 := by have := (tS_le (b := tb0 r) hA1).2; omega
      have gb := numM_bad (lo := 0) (H := 21) hA1 h500 w1 (by omega) (by omega) c
      have fault : mI (mIs m1 8 (nI (tS (tb0 r) T A1))) 8 = nI (tS (tb0 r) T A1) := by rw [q_ii, if_pos rfl]
      refine ⟨0, s2, t7, mIs m1 8 (nI (tS (tb0 r) T A1)), ?_, ?_, ((PD.rf m).fr f2).i 8 _ (by decide), tc2.1, Or.inr ⟨_, fl, fault, rfl, tc2.2.1⟩⟩
      · rw [hcls, bad2 c, Option.bind_some, nm_at, if_pos (show nM 1 < 0 from by decide)]
      · rw [href]
        unfold F_X12_readsMetre_b43
        rw [e20, show F_X12_number m1 0 (nI 21 - 1) = _ from gb, Option.bind_some, nm_at]
        show ((F_X12_isWell (mIs m1 8 (nI (tS (tb0 r) T A1)))).bind fun q_3 => _) = _
        rw [well_0 fl fault, Option.bind_some, if_pos rfl]
/-- the class's form, so far: i letters of form F -/
def FB (z z0 : S1) (F i : Nat) (b : Nat → Nat) (S : Nat) : Prop := s1_size z = nI (F + 1) ∧ s1_lengths z F = nI i ∧ (∀ k, k < i → s1_letters z (8 * F + k) = nI (b (S + k) - 97)) ∧ (∀ k, k < F → s1_lengths z k = s1_lengths z0 k) ∧ ∀ k, k < 8 * F → s1_letters z k = s1_letters z0 k
theorem formX_lp {s1 : S8} {T a F : Nat} {r : Nat → Int32} {z0 zb0 : S1} (hF : F < 2) (ha : a ≤ T) (tc : TC s1 T r a) (hk : tK (tb0 r) T a = 1) (h8 : tE (tb0 r) T a - tS (tb0 r) T a ≤ 8) (hb : FB zb0 z0 F 0 (tb0 r) (tS (tb0 r) T a)) {Q : Int32 × S8 × S1 → Prop} (yes : ∀ z, (∀ i, i < tE (tb0 r) T a - tS (tb0 r) T a → tb0 r (tS (tb0 r) T a + i) - 97 < 8) → FB z z0 F (tE (tb0 r) T a - tS (tb0 r) T a) (tb0 r) (tS (tb0 r) T a) → An ((F_X5_nextStop s1).bind fun q_1 => (zb q_1.1).bind fun z_2 => some (q_1.1, q_1.2, z)) Q) (no : ∀ z, ¬ (∀ i, i < tE (tb0 r) T a - tS (tb0 r) T a → tb0 r (tS (tb0 r) T a + i) - 97 < 8) → Q (0, s1, z)) : An (F_X5_tellForm_b37 fu (nI (tE (tb0 r) T a - tS (tb0 r) T a)) (nI 0) s1 zb0) Q := by
  obtain ⟨l1, l2⟩ := tok_let ha hk
  have hS := tS_le (b := tb0 r) ha
  refine lp_up (fun q v z => F_X5_tellForm_b37 q (nI (tE (tb0 r) T a - tS (tb0 r) T a)) v s1 z) (tE (tb0 r) T a - tS (tb0 r) T a) (fun i z => FB z z0 F i (tb0 r) (tS (tb0 r) T a) ∧ ∀ k, k < i → tb0 r (tS (tb0 r) T a + k) - 97 < 8) _ ?_ ?_ fu 0 zb0 (by omega) (by unfold fu; omega) ⟨hb, fun k hk => by omega⟩
  · intro q i z hi ⟨⟨h1, h2, h3, h4, h5⟩, h6⟩ hK
    have la := letterAt_t ha tc hk hi
    have l3 := l2 i hi
    show An (F_X5_tellForm_b37 (q + 1) (nI (tE (tb0 r) T a - tS (tb0 r) T a)) (nI i) s1 z) Q
    rw [F_X5_tellForm_b37, if_neg (nI_ge hi (by omega)), la, Option.bind_some]
    by_cases c : tb0 r (tS (tb0 r) T a + i) - 97 < 8
    · rw [if_pos (show nI (tb0 r (tS (tb0 r) T a + i) - 97) < 8 from nI_lt (b := 8) c (by omega)), Option.bind_some]
      have ad : F_X1_addLetter z (nI (tb0 r (tS (tb0 r) T a + i) - 97)) = some (upd (s1_letters z) (8 * F + i) (nI (tb0 r (tS (tb0 r) T a + i) - 97)), upd (s1_lengths z) F (nI (i + 1)), nI (F + 1)) := by
        unfold F_X1_addLetter
        rw [nm_at, h1, nI_p1, at_total (by omega), Option.bind_some, atvN (by omega) (by omega), h2, nm_at, if_neg (nI_pos (by omega)), if_pos (show nI i < 8 from nI_lt (b := 8) (by omega) (by omega))]
        rw [show nI F * 8 + nI i = nI (8 * F + i) from by rw [show nI F * 8 = nI (F * 8) from nI_mul F 8, nI_add]; exact congrArg nI (by omega)]
        rw [set_total (by omega), setvN (by omega) (by omega), Option.bind_some, set_total (by omega), setvN (by omega) (by omega), Option.bind_some, nI_1]
        show some (u1_lengths (u1_letters z _) _) = _
        unfold u1_lengths u1_letters
        show some (_, _, s1_size z) = _
        rw [h1]
        rfl
      rw [ad, Option.bind_some, nm_at, nI_1]
      refine hK _ ⟨⟨rfl, ?_, ?_, ?_, ?_⟩, ?_⟩
      · show upd (s1_lengths z) F (nI (i + 1)) F = _
        rw [u_at, if_pos rfl]
      · intro k hk
        show upd (s1_letters z) (8 * F + i) _ (8 * F + k) = _
        rw [u_at]
        by_cases g : k = i
        · rw [if_pos (by omega), g]
        · rw [if_neg (by omega)]; exact h3 k (by omega)
      · intro k hk
        show upd (s1_lengths z) F _ k = _
        rw [u_at, if_neg (by omega)]; exact h4 k hk
      · intro k hk
        show upd (s1_letters z) (8 * F + i) _ k = _
        rw [u_at, if_neg (by omega)]; exact h5 k hk
      · intro k hk
        by_cases g : k = i
        · rw [g]; exact c
        · exact h6 k (by omega)
    · rw [if_neg (show ¬ nI (tb0 r (tS (tb0 r) T a + i) - 97) < 8 from nI_nlt (b := 8) (by omega) (by have := (tc.1.by (k := tS (tb0 r) T a + i) (by have := (tE_le (b := tb0 r) ha).2.1; omega)).2.1; omega))]
      exact An_some (no z fun g => c (g i hi))
  · intro q z ⟨h1, h6⟩
    show An (F_X5_tellForm_b37 (q + 1) (nI (tE (tb0 r) T a - tS (tb0 r) T a)) (nI (tE (tb0 r) T a - tS (tb0 r) T a)) s1 z) Q
    rw [F_X5_tellForm_b37, if_pos (nI_le (Nat.le_refl _) (by have := (tE_le (b := tb0 r) ha).2.1; have := tc.1.1; omega))]
    exact yes z h6 h1
