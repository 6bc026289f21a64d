/-! ===== the item form; any item ===== -/
theorem b84_f {m : SM} {fl : Nat} (hfl : fl < 1000) (h : mI m 8 = nI fl) : F_X12_readsForm_b84 m = some (mIs m 17 (mI m 17 + 1)) := by
  unfold F_X12_readsForm_b84
  rw [nm_at, well_0 (F := fl) hfl (by rw [q_ii, if_neg (by omega)]; exact h), Option.bind_some, if_pos rfl]
theorem form_it {s : S8} {m : SM} {T a W F P S : Nat} {r : Nat → Int32} {t7 : S7} {t10 : S10} {t1 : S1} {pp ps : S4} (hs : TX s T r) (ha : a ≤ T) (he : s8_end s = nI a) (hM : MT m T r) (hR : RW m T r a) (hD : DR W F P S t7 t10 t1 pp ps m) (hF : F < 2) : ∃ q1 s2 t2 m2, F_X5_tellForm s t1 = some (q1, s2, t2) ∧ F_X12_readsForm m = some m2 ∧ PD m m2 ∧ IR T r a q1 s2 m2 (DR W (F + 1) P S t7 t10 t2 pp ps m2) := by
  obtain ⟨⟨d16, d17, d19, d18⟩, dW, dF, dM, dP, dS⟩ := hD
  have h500 := hs.1
  have hS := tS_le (b := tb0 r) ha
  have hE := tE_le (b := tb0 r) ha
  obtain ⟨s1, e1, tc1⟩ := advance_t hs ha he
  have el := letters_t ha tc1
  obtain ⟨x, ex, hx⟩ := areL_t hM ha hR.1 (most := 8) (by omega)
  have fl1 : tS (tb0 r) T a < 1000 := by omega
  have hlen : mI m 4 - mI m 6 = nI (tE (tb0 r) T a - tS (tb0 r) T a) := by rw [hR.1.1, hR.1.2.1, nI_sub hE.1]
  have hat : (18 : Int32) + 9 * mI m 17 = nI (18 + 9 * F) := by rw [d17, show (9 : Int32) * nI F = nI (9 * F) from nI_mul 9 F]; exact nI_add 18 _
  -- the class's form begins
  obtain ⟨zb0, ez⟩ : ∃ z : S1, z = (s1_letters t1, upd (s1_lengths t1) F (nI 0), nI (F + 1)) := ⟨_, rfl⟩
  have hbeg : F_X1_begin t1 = some zb0 := by
    unfold F_X1_begin F_X1_isFull
    rw [dF.2.1, if_pos (show nI F < 2 from nI_lt (b := 2) hF (by omega)), Option.bind_some, if_pos rfl, set_total (by omega), setvN (by omega) (by omega), Option.bind_some, nm_at]
    show some (s1_letters t1, upd (s1_lengths t1) F 0, s1_size t1 + 1) = _
    rw [dF.2.1, nI_1, ez]
    rfl
  have hFB : FB zb0 t1 F 0 (tb0 r) (tS (tb0 r) T a) := by
    rw [ez]
    refine ⟨rfl, ?_, fun k hk => by omega, fun k hk => ?_, fun k hk => rfl⟩
    · show upd (s1_lengths t1) F (nI 0) F = _
      rw [u_at, if_pos rfl]
    · show upd (s1_lengths t1) F (nI 0) k = _
      rw [u_at, if_neg (by omega)]
  have hcls0 : F_X5_tellForm s t1 = (if nI (if tK (tb0 r) T a = 1 then tE (tb0 r) T a - tS (tb0 r) T a else 0) < 1 then some (0, s1, t1) else (if nI (if tK (tb0 r) T a = 1 then tE (tb0 r) T a - tS (tb0 r) T a else 0) ≤ 8 then F_X5_tellForm_b37 fu (nI (if tK (tb0 r) T a = 1 then tE (tb0 r) T a - tS (tb0 r) T a else 0)) (nI 0) s1 zb0 else some (0, s1, t1))) := by
    unfold F_X5_tellForm F_X1_isFull
    rw [dF.2.1, if_pos (show nI F < 2 from nI_lt (b := 2) hF (by omega)), Option.bind_some, if_pos rfl, e1, Option.bind_some, el, Option.bind_some, nm_at, hbeg, Option.bind_some, nm_at]
    rfl
  rcases is01_cases hx with ⟨x0, nl⟩ | ⟨x1, yl⟩
  · have fault : mI (mIs m 8 (nI (tS (tb0 r) T a))) 8 = nI (tS (tb0 r) T a) := by rw [q_ii, if_pos rfl]
    obtain ⟨b0, eb0⟩ : ∃ z, z = mAs (mIs m 8 (nI (tS (tb0 r) T a))) 10 (upd (mA (mIs m 8 (nI (tS (tb0 r) T a))) 10) (18 + 9 * F) (nI (tE (tb0 r) T a - tS (tb0 r) T a))) := ⟨_, rfl⟩
    have pb0 : PD m b0 := by rw [eb0]; exact ((PD.rf m).i 8 _ (by decide)).a 10 _ _ (Or.inr (Or.inl ⟨rfl, by omega⟩))
    have hb0 : mI b0 8 = nI (tS (tb0 r) T a) := by rw [eb0]; rfl
    have href : F_X12_readsForm m = some (mIs b0 17 (mI b0 17 + 1)) := by
      unfold F_X12_readsForm
      rw [show F_X12_areLetters m 8 = some x from ex, Option.bind_some, x0, show F_X12_wants m (nI 0) = some (mIs m 8 (mI m 6)) from wants_0 hR.2, Option.bind_some, hR.1.1, nm_at]
      rw [show (18 : Int32) + 9 * mI (mIs m 8 (nI (tS (tb0 r) T a))) 17 = nI (18 + 9 * F) from hat, show mI (mIs m 8 (nI (tS (tb0 r) T a))) 4 - mI (mIs m 8 (nI (tS (tb0 r) T a))) 6 = nI (tE (tb0 r) T a - tS (tb0 r) T a) from hlen, asN _ (by omega) (by omega), Option.bind_some, nm_at, nm_at, ← eb0]
      obtain ⟨q, eq⟩ : ∃ q, fu = q + 1 := ⟨fu - 1, by unfold fu; omega⟩
      rw [eq, F_X12_readsForm_b38, agN (by omega) (by omega), Option.bind_some]
      by_cases g : mA b0 10 (18 + 9 * F) ≤ 0
      · rw [if_pos g]; exact b84_f fl1 hb0
      · rw [if_neg g, well_0 fl1 hb0, Option.bind_some, if_pos rfl]; exact b84_f fl1 hb0
    have bad : ∃ z, F_X5_tellForm s t1 = some (0, s1, z) := by
      rw [hcls0]
      by_cases k1 : tK (tb0 r) T a = 1
      · rw [if_pos k1]
        obtain ⟨l1, l2⟩ := tok_let ha k1
        rw [if_neg (show ¬ nI (tE (tb0 r) T a - tS (tb0 r) T a) < 1 from nI_nlt (b := 1) (by omega) (by omega))]
        by_cases k2 : tE (tb0 r) T a - tS (tb0 r) T a ≤ 8
        · rw [if_pos (show nI (tE (tb0 r) T a - tS (tb0 r) T a) ≤ 8 from nI_le (b := 8) k2 (by omega))]
          obtain ⟨q, q1, q2⟩ := formX_lp (Q := fun q => ∃ z, q = (0, s1, z)) hF ha tc1 k1 k2 hFB (fun z hz _ => absurd ⟨k1, k2, hz⟩ nl) (fun z _ => ⟨z, rfl⟩)
          obtain ⟨z, ez2⟩ := q2
          exact ⟨z, by rw [q1, ez2]⟩
        · rw [if_neg (show ¬ nI (tE (tb0 r) T a - tS (tb0 r) T a) ≤ 8 from nI_ge (a := 8) (by omega) (by omega))]
          exact ⟨t1, rfl⟩
      · rw [if_neg k1, if_pos (show nI 0 < 1 from by decide)]
        exact ⟨t1, rfl⟩
    obtain ⟨z, hz⟩ := bad
    exact ⟨0, s1, z, _, hz, href, pb0.i 17 _ (by decide), tc1.1, Or.inr ⟨_, fl1, hb0, rfl, tc1.2.1⟩⟩
  · obtain ⟨k1, k2, k3⟩ := yl
    obtain ⟨l1, l2⟩ := tok_let ha k1
    obtain ⟨n, hn⟩ : ∃ n, n = tE (tb0 r) T a - tS (tb0 r) T a := ⟨_, rfl⟩
    rw [← hn] at k2 k3 l2 hlen
    -- the reference reads the letters
    obtain ⟨b0, eb0⟩ : ∃ z, z = mAs m 10 (upd (mA m 10) (18 + 9 * F) (nI n)) := ⟨_, rfl⟩
    have pb0 : PD m b0 := by rw [eb0]; exact (PD.rf m).a 10 _ _ (Or.inr (Or.inl ⟨rfl, by omega⟩))
    have hlp : An (F_X12_readsForm_b38 fu (nI (18 + 9 * F)) (nI 0) b0) (fun m2 => ∃ m1, Fr [] [10] [] b0 m1 ∧ PD m m1 ∧ (∀ k, k < 18 + 9 * F + 1 → mA m1 10 k = mA b0 10 k) ∧ (∀ k, k < n → mA m1 10 (18 + 9 * F + 1 + k) = nI (tb0 r (tS (tb0 r) T a + k) - 97)) ∧ F_X12_readsForm_b84 m1 = some m2) := by
      have hM1 : ∀ m1, Fr [] [10] [] b0 m1 → MT m1 T r ∧ mI m1 8 = nM 1 ∧ mI m1 6 = nI (tS (tb0 r) T a) ∧ mI m1 4 = nI (tE (tb0 r) T a) ∧ mI m1 17 = nI F := by
        intro m1 hf
        refine ⟨hM.fr ?_ ?_, ?_, ?_, ?_, ?_⟩
        · rw [hf.1 3 (by decide), eb0, q_ia]
        · rw [hf.2.1 2 (by decide), eb0, q_aa, if_neg (by omega)]
        · rw [hf.1 8 (by decide), eb0, q_ia]; exact hR.2
        · rw [hf.1 6 (by decide), eb0, q_ia]; exact hR.1.1
        · rw [hf.1 4 (by decide), eb0, q_ia]; exact hR.1.2.1
        · rw [hf.1 17 (by decide), eb0, q_ia]; exact d17
      have b84 : ∀ m1, Fr [] [10] [] b0 m1 → An (F_X12_readsForm_b84 m1) (fun _ => True) := by
        intro m1 hf
        obtain ⟨y1, y2, y3, y4, y5⟩ := hM1 m1 hf
        unfold F_X12_readsForm_b84
        rw [nm_at, well_1 (m := mIs m1 17 (mI m1 17 + 1)) (by rw [q_ii, if_neg (by omega)]; exact y2), Option.bind_some, if_neg (by decide)]
        refine An_bind (advM_t (m := mIs m1 17 (mI m1 17 + 1)) (T := T) (r := r) (y1.fr rfl rfl) hE.2.1 (by rw [q_ii, if_neg (by omega)]; exact y4)) fun q _ => ?_
        exact An_some trivial
      refine lp_up (fun q v (m1 : SM) => F_X12_readsForm_b38 q (nI (18 + 9 * F)) v m1) n (fun i m1 => Fr [] [10] [] b0 m1 ∧ PD m m1 ∧ (∀ k, k < 18 + 9 * F + 1 → mA m1 10 k = mA b0 10 k) ∧ (∀ k, k < i → mA m1 10 (18 + 9 * F + 1 + k) = nI (tb0 r (tS (tb0 r) T a + k) - 97))) _ ?_ ?_ fu 0 b0 (by omega) (by unfold fu; omega) ⟨Fr.rf b0, pb0, fun _ _ => rfl, fun k hk => by omega⟩
      · intro q i m1 hi ⟨g1, g2, g3, g4⟩ hK
        obtain ⟨y1, y2, y3, y4, y5⟩ := hM1 m1 g1
        have l3 := l2 i hi
        show An (F_X12_readsForm_b38 (q + 1) (nI (18 + 9 * F)) (nI i) m1) _
        rw [F_X12_readsForm_b38, agN (by omega) (by omega), Option.bind_some, g3 (18 + 9 * F) (by omega)]
        rw [show mA b0 10 (18 + 9 * F) = nI n from by rw [eb0, q_aa, if_pos rfl, u_at, if_pos rfl]]
        rw [if_neg (nI_ge hi (by omega)), well_1 y2, Option.bind_some, if_neg (by decide), y3, nI_add, byteM_t y1 (by omega), if_pos (by omega), Option.bind_some]
        rw [show nI (18 + 9 * F) + 1 + nI i = nI (18 + 9 * F + 1 + i) from by rw [nI_1, nI_add], asN _ (by omega) (by omega), Option.bind_some, nm_at, nm_at, nI_1]
        rw [show nI (tb0 r (tS (tb0 r) T a + i)) - 97 = nI (tb0 r (tS (tb0 r) T a + i) - 97) from nI_sub (b := 97) l3.1]
        refine hK _ ⟨g1.a 10 _ (by decide), g2.a 10 _ _ (Or.inr (Or.inl ⟨rfl, by omega⟩)), fun k hk => ?_, fun k hk => ?_⟩
        · rw [q_aa, if_pos rfl, u_at, if_neg (by omega)]; exact g3 k hk
        · rw [q_aa, if_pos rfl, u_at]
          by_cases y : k = i
          · rw [if_pos (by omega), y]
          · rw [if_neg (by omega)]; exact g4 k (by omega)
      · intro q m1 ⟨g1, g2, g3, g4⟩
        show An (F_X12_readsForm_b38 (q + 1) (nI (18 + 9 * F)) (nI n) m1) _
        rw [F_X12_readsForm_b38, agN (by omega) (by omega), Option.bind_some, g3 (18 + 9 * F) (by omega)]
        rw [show mA b0 10 (18 + 9 * F) = nI n from by rw [eb0, q_aa, if_pos rfl, u_at, if_pos rfl]]
        rw [if_pos (nI_le (Nat.le_refl n) (by omega))]
        obtain ⟨m2, z1, -⟩ := b84 m1 g1
        exact ⟨m2, z1, m1, g1, g2, g3, g4, z1⟩
    obtain ⟨m2, hl1, m1, g1, g2, g3, g4, g5⟩ := hlp
    have href : F_X12_readsForm m = some m2 := by
      unfold F_X12_readsForm
      rw [show F_X12_areLetters m 8 = some x from ex, Option.bind_some, x1, wants_1 (nI 1) (by decide) hR.2, Option.bind_some, nm_at, hat, hlen, asN _ (by omega) (by omega), Option.bind_some, nm_at, nm_at, ← eb0]
      exact hl1
    -- it stands at the next token
    have f17 : mI m1 17 = nI F := by rw [g1.1 17 (by decide), eb0, q_ia]; exact d17
    have f4 : mI m1 4 = nI (tE (tb0 r) T a) := by rw [g1.1 4 (by decide), eb0, q_ia]; exact hR.1.2.1
    have f8 : mI m1 8 = nM 1 := by rw [g1.1 8 (by decide), eb0, q_ia]; exact hR.2
    have hMm : MT (mIs m1 17 (mI m1 17 + 1)) T r := hM.fr (by rw [q_ii, if_neg (by omega), g1.1 3 (by decide), eb0, q_ia]) (by rw [q_ai, g1.2.1 2 (by decide), eb0, q_aa, if_neg (by omega)])
    obtain ⟨m3, a1, a2, a3⟩ := advM_t hMm hE.2.1 (by rw [q_ii, if_neg (by omega)]; exact f4)
    have em : m2 = m3 := by
      unfold F_X12_readsForm_b84 at g5
      rw [nm_at, well_1 (m := mIs m1 17 (mI m1 17 + 1)) (by rw [q_ii, if_neg (by omega)]; exact f8), Option.bind_some, if_neg (by decide), a1, Option.bind_some] at g5
      exact (Option.some.inj g5).symm
    subst em
    have pd : PD m m2 := (g2.i 17 _ (by decide)).fr a2
    have rw2 : RW m2 T r (tE (tb0 r) T a) := ⟨a3, (a2.1 8 (by decide)).trans (by rw [q_ii, if_neg (by omega)]; exact f8)⟩
    have hB : a ≤ tE (tb0 r) T a := by omega
    obtain ⟨s3, tc3, ok3, bad3⟩ := stopX_t tc1.1 hE.2.1 tc1.2.2.1
    have hcls1 : An (F_X5_tellForm s t1) (fun q => ∃ z, q = ((if tK (tb0 r) T (tE (tb0 r) T a) = 3 then (1 : Int32) else 0), s3, z) ∧ FB z t1 F n (tb0 r) (tS (tb0 r) T a)) := by
      rw [hcls0, if_pos k1, ← hn]
      rw [if_neg (show ¬ nI n < 1 from nI_nlt (b := 1) (by omega) (by omega)), if_pos (show nI n ≤ 8 from nI_le (b := 8) k2 (by omega)), hn]
      refine formX_lp hF ha tc1 k1 (by omega) hFB (fun z hz hfb => ?_) (fun z hz => absurd (fun i hi => k3 i (by omega)) hz)
      by_cases cs : tK (tb0 r) T (tE (tb0 r) T a) = 3
      · rw [ok3 cs, Option.bind_some, show zb (1 : Int32) = some 1 from rfl, Option.bind_some, if_pos cs]
        exact An_some ⟨z, rfl, hfb⟩
      · rw [bad3 cs, Option.bind_some, show zb (0 : Int32) = some 0 from rfl, Option.bind_some, if_neg cs]
        exact An_some ⟨z, rfl, hfb⟩
    obtain ⟨q, hq, z, ezq, b1, b2, b3, b4, b5⟩ := hcls1
    rw [ezq] at hq
    by_cases cs : tK (tb0 r) T (tE (tb0 r) T a) = 3
    · rw [if_pos cs] at hq
      refine ⟨1, s3, z, m2, hq, href, pd, tc3.1, Or.inl ⟨_, hB, hE.2.1, rw2, Or.inl ⟨cs, rfl, tc3.2.2.1, ?_⟩⟩⟩
      have r10 : ∀ k, mA m2 10 k = mA m1 10 k := fun k => by rw [a2.2.1 10 (by decide), q_ai]
      have oth : ∀ k, k ≠ 10 → mA m2 k = mA m k := fun k hk => by
        rw [a2.2.1 k (by simp), q_ai, g1.2.1 k (by simp; exact hk), eb0, q_aa, if_neg hk]
      have ints : ∀ k, k ≠ 4 → k ≠ 5 → k ≠ 6 → k ≠ 7 → k ≠ 17 → mI m2 k = mI m k := fun k y1 y2 y3 y4 y5 => by
        rw [a2.1 k (by simp; omega), q_ii, if_neg y5, g1.1 k (by simp), eb0, q_ia]
      refine ⟨⟨?_, ?_, ?_, ?_⟩, ?_, ?_, ?_, ?_, ?_⟩
      · rw [ints 16 (by omega) (by omega) (by omega) (by omega) (by omega)]; exact d16
      · rw [a2.1 17 (by decide), q_ii, if_pos rfl, f17, nI_1]
      · rw [ints 19 (by omega) (by omega) (by omega) (by omega) (by omega)]; exact d19
      · rw [ints 18 (by omega) (by omega) (by omega) (by omega) (by omega)]; exact d18
      · rw [oth 9 (by omega)]; exact dW
      · refine ⟨by omega, b1, fun f hf => ?_⟩
        by_cases y : f = F
        · subst y
          refine ⟨n, by omega, k2, ?_, b2, fun k hk => ?_⟩
          · show mA m2 10 (18 + 9 * f) = _
            rw [r10, g3 _ (by omega), eb0, q_aa, if_pos rfl, u_at, if_pos rfl]
          · have e := g4 k hk
            have l3 := k3 k hk
            show Lb (mA m2 10 (18 + (9 * f + 1 + k))) 8 ∧ s1_letters z (8 * f + k) = mA m2 10 (18 + (9 * f + 1 + k))
            rw [r10, show 18 + (9 * f + 1 + k) = 18 + 9 * f + 1 + k from by omega, e]
            exact ⟨⟨_, l3, rfl⟩, b3 k hk⟩
        · obtain ⟨l, o1, o2, o3, o4, o5⟩ := dF.2.2 f (by omega)
          refine ⟨l, o1, o2, ?_, (b4 f (by omega)).trans o4, fun k hk => ?_⟩
          · show mA m2 10 (18 + 9 * f) = _
            rw [r10, g3 _ (by omega), eb0, q_aa, if_pos rfl, u_at, if_neg (by omega)]; exact o3
          · have o6 := o5 k hk
            show Lb (mA m2 10 (18 + (9 * f + 1 + k))) 8 ∧ s1_letters z (8 * f + k) = mA m2 10 (18 + (9 * f + 1 + k))
            rw [r10, g3 _ (by omega), eb0, q_aa, if_pos rfl, u_at, if_neg (by omega), b5 _ (by omega)]
            exact o6
      · rw [oth 11 (by omega)]; exact dM
      · rw [oth 20 (by omega)]; exact dP
      · rw [oth 12 (by omega)]; exact dS
    · rw [if_neg cs] at hq
      exact ⟨0, s3, z, m2, hq, href, pd, tc3.1, Or.inl ⟨_, hB, hE.2.1, rw2, Or.inr ⟨cs, rfl, tc3.2.1⟩⟩⟩
