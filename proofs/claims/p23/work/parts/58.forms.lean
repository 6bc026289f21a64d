/-! ===== both, parting, forged ===== -/
theorem js_cg {L : Nat → Nat} {ok : Nat → Bool} {rh rh2 : Nat → Nat → Bool} {n : Nat} (h : ∀ a i, a < i → i < n → rh a i = rh2 a i) : ∀ i, i < n → js L ok rh i = js L ok rh2 i ∧ ja L ok rh i = ja L ok rh2 i := by
  intro i
  induction i using Nat.strongRecOn with
  | ind i ih =>
    intro hi
    have e : ja L ok rh i = ja L ok rh2 i := near_cg fun j hj => (ih j hj (by omega)).1
    refine ⟨?_, e⟩
    rw [js_eq, js_eq, e]
    by_cases c : ja L ok rh2 i = 0
    · rw [if_pos c, if_pos c]
    · obtain ⟨j, hj⟩ : ∃ j, ja L ok rh2 i = j + 1 := ⟨ja L ok rh2 i - 1, by omega⟩
      have := ja_at hj
      rw [hj, show j + 1 - 1 = j from by omega, h j i this.1 hi]
theorem law_cg {L : Nat → Nat} {ok : Nat → Bool} {rh rh2 : Nat → Nat → Bool} {n : Nat} (h : ∀ a i, a < i → i < n → rh a i = rh2 a i) (hl : lawP (bnd L ok rh n) n) : lawP (bnd L ok rh2 n) n := by
  refine ⟨hl.1, fun i hi => ?_⟩
  rcases hl.2 i hi with a | ⟨k, k1, k2, k3⟩
  · exact Or.inl ⟨hi, by rw [← (js_cg h i hi).1]; exact a.2⟩
  · exact Or.inr ⟨k, k1, by rw [← (js_cg h k k1).1]; exact k2, by rw [← (js_cg h k k1).2]; exact k3⟩
theorem both_ok {o : S11} {tx : S8} {tr row i1 i2 : S4} {t7 : S7} {t10 : S10} {t1 : S1} {tp ts pp ps : S4} {ms : SM} (h : IV o tx tr row i1 i2 t7 t10 t1 tp ts pp ps ms) (ve : S9) (a1 : Int32) : ∃ (r : Int32) (z : S9) (s' : SM), F_X11_both o t7 ve t1 tp t10 a1 = some (r, z) ∧ F_X12_both ms a1 = some (r, s') ∧ Fr scI scA scJ ms s' := by
  obtain ⟨W, F, P, S, T, ⟨hW, hF, hP, hS, hT⟩, hTX, hWR, hFR, hMR, hLP, hLS, hI1, hI2, hMo, hTr⟩ := h
  have hP8 := hLP.1
  have hF2 := hFR.1
  have ed : F_X12_in a1 0 1 = _ := in_rng (a := 0) (b := 1) (by omega) (by omega) a1
  have e1i : (1 : Int32).toInt = 1 := by decide
  unfold F_X11_both F_X12_both
  rw [noView_t o t7 hFR.2.1 (by omega), noView_t o t7 hFR.2.1 (by omega)]
  simp only [nm_at, Option.bind_some, if01, ed, if10]
  rw [show mI (mIs ms 0 0) 14 = nI F from hF]
  by_cases c1 : F = 2
  · subst c1
    by_cases c2 : 0 ≤ a1.toInt ∧ a1.toInt < 2
    · obtain ⟨d, hd, rfl⟩ := Lb.of (n := 2) c2
      rw [if_pos ⟨by rw [pz0]; omega, c2⟩, if_pos ⟨by rw [e1i]; omega, c2⟩]
      rw [if_neg (show ¬ nI 2 < 2 from by decide), if_pos (show ((0 : Nat) : Int) ≤ (nI d).toInt ∧ (nI d).toInt ≤ ((1 : Nat) : Int) from by omega)]
      obtain ⟨z, z1, z2⟩ := view_ok (v := ve) (f := 0) hMR hWR hFR (by omega) hLP (by omega) (d := d) (by omega) (snd_d hWR hd)
      obtain ⟨y, y1, y2⟩ := view_ok (v := z) (f := 1) hMR hWR hFR (by omega) hLP (by omega) (d := d) (by omega) (snd_d hWR hd)
      obtain ⟨r, r1, r2⟩ := lawX_t hP8 z2
      obtain ⟨q, q1, q2⟩ := lawX_t hP8 y2
      have hM : An ((F_X12_lays (mIs ms 0 0)).bind fun q_3 => (F_X12_hears q_3 (nI d)).bind fun q_4 => (F_X12_isLaw q_4 0).bind fun q_5 => (if q_5.1 = 0 then some ((0 : Int32), q_5.2) else (F_X12_isLaw q_5.2 1).bind fun q_6 => (if q_6.1 = 0 then some (0, q_6.2) else some (1, q_6.2)))) (fun x => x.1 = (if r = 0 then 0 else if q = 0 then 0 else 1) ∧ Fr scI scA scJ ms x.2) := by
        refine lh_t W (s := mIs ms 0 0) hP hP8 (by omega) fun s' ⟨a1, a2, a3, a4⟩ => ?_
        have e9 := a1.2.1 9 (by decide)
        have e10 := a1.2.1 10 (by decide)
        have e11 := a1.2.1 11 (by decide)
        have hJ := JH_ok (t7 := t7) (t10 := t10) (t1 := t1) (s := s') (f := 0) (F := 2) (W := W) (n := P) (r := fun j => mA ms 21 (1 + j)) (sd := fun w => mA ms 9 (4 * w + d)) (by rw [e11]; exact hMR) (by rw [e9]; exact hWR) (by rw [e10]; exact hFR) (by omega) hP8 hLP.2.2.2 a2 a3 (fun w hw => a4 w (by have := hWR.1; omega))
        rw [e9, e10, e11] at hJ
        refine An_bind (lawM_t hP8 hJ) fun x ⟨b1, b2, b3⟩ => ?_
        have er : x.1 = r := is01_uniq b1 r2
        rw [er]
        have hfr : Fr scI scA scJ ms x.2 := ((fr0 ms).tr (a1.wd (by decide) (by decide) (by decide))).tr (fr_jA b2)
        by_cases g : r = 0
        · rw [if_pos g]
          exact An_some ⟨by rw [if_pos g], hfr⟩
        · rw [if_neg g]
          have f9 : mA x.2 9 = mA ms 9 := (b2.2.1 9 (by decide)).trans e9
          have f10 : mA x.2 10 = mA ms 10 := (b2.2.1 10 (by decide)).trans e10
          have f11 : mA x.2 11 = mA ms 11 := (b2.2.1 11 (by decide)).trans e11
          have hJ2 := JH_ok (t7 := t7) (t10 := t10) (t1 := t1) (s := x.2) (f := 1) (F := 2) (W := W) (n := P) (r := fun j => mA ms 21 (1 + j)) (sd := fun w => mA ms 9 (4 * w + d)) (by rw [f11]; exact hMR) (by rw [f9]; exact hWR) (by rw [f10]; exact hFR) (by omega) hP8 hLP.2.2.2 ((b2.1 25 (by decide)).trans a2) (fun j hj => by rw [b2.2.1 24 (by decide)]; exact a3 j hj) (fun w hw => by rw [b2.2.1 31 (by decide)]; exact a4 w (by have := hWR.1; omega))
          rw [f9, f10, f11] at hJ2
          refine An_bind (lawM_t hP8 hJ2) fun u ⟨c1, c2, c3⟩ => ?_
          have eq : u.1 = q := is01_uniq c1 q2
          rw [eq]
          by_cases g2 : q = 0
          · rw [if_pos g2]; exact An_some ⟨by rw [if_neg g, if_pos g2], hfr.tr (fr_jA c2)⟩
          · rw [if_neg g2]; exact An_some ⟨by rw [if_neg g, if_neg g2], hfr.tr (fr_jA c2)⟩
      obtain ⟨x, x1, x2, x3⟩ := hM
      have hX : ∃ zz, ((F_X11_view o t7 ve t1 tp t10 0 (nI d)).bind fun q_3 => (F_X9_isLaw q_3).bind fun q_4 => (if q_4 = 0 then some ((0 : Int32), q_3) else (F_X11_view o t7 q_3 t1 tp t10 1 (nI d)).bind fun q_5 => (F_X9_isLaw q_5).bind fun q_6 => (if q_6 = 0 then some (0, q_5) else some (1, q_5)))) = some (x.1, zz) := by
        unfold F_X11_view
        rw [show F_X9_judge t7 tp ve t1 t10 0 (nI d) = some z from z1]
        simp only [Option.bind_some]
        rw [r1]
        simp only [Option.bind_some]
        by_cases g : r = 0
        · rw [if_pos g, x2, if_pos g]; exact ⟨z, rfl⟩
        · rw [if_neg g, show F_X9_judge t7 tp z t1 t10 1 (nI d) = some y from y1]
          simp only [Option.bind_some]
          rw [q1]
          simp only [Option.bind_some]
          by_cases g2 : q = 0
          · rw [if_pos g2, x2, if_neg g, if_pos g2]; exact ⟨y, rfl⟩
          · rw [if_neg g2, x2, if_neg g, if_neg g2]; exact ⟨y, rfl⟩
      obtain ⟨zz, hX⟩ := hX
      exact ⟨x.1, zz, x.2, hX, x1, x3⟩
    · rw [if_neg (fun y => c2 y.2), if_neg (show ¬ nI 2 < 2 from by decide), if_neg (show ¬ (((0 : Nat) : Int) ≤ a1.toInt ∧ a1.toInt ≤ ((1 : Nat) : Int)) from by omega)]
      exact ⟨-1, ve, mIs ms 0 0, rfl, rfl, fr0 ms⟩
  · rw [if_pos (show nI F < 2 from nI_lt (b := 2) (by omega) (by omega))]
    refine ⟨-1, ve, mIs ms 0 0, ?_, rfl, fr0 ms⟩
    rw [if_neg (show ¬ ((0 ≤ (1 : Int32).toInt ∧ (1 : Int32).toInt < F) ∧ 0 ≤ a1.toInt ∧ a1.toInt < 2) from by rw [e1i]; omega)]
    by_cases g : (0 ≤ (0 : Int32).toInt ∧ (0 : Int32).toInt < F) ∧ 0 ≤ a1.toInt ∧ a1.toInt < 2
    · rw [if_pos g]
    · rw [if_neg g]
theorem op_both {st : SX} {ms : SM} (h : Inv st ms) (a1 : Int32) : ∃ (r r2 : Int32) (st2 : SX) (ms2 : SM), X_both st a1 = some (r, st2) ∧ M_both ms a1 = some (r2, ms2) ∧ r = r2 ∧ Inv st2 ms2 := by
  obtain ⟨o, tx, ve, tr, me, gu, ch, row, i1, i2, t7, t10, t1, tp, ts, p7, p10, p1, pp, ps⟩ := st
  obtain ⟨r, z, s', x1, x2, x3⟩ := both_ok (show IV o tx tr row i1 i2 t7 t10 t1 tp ts pp ps ms from h) ve a1
  exact ⟨r, r, (o, tx, z, tr, me, gu, ch, row, i1, i2, t7, t10, t1, tp, ts, p7, p10, p1, pp, ps), s', by unfold X_both; rw [x1]; rfl, by unfold M_both; rw [x2]; rfl, rfl, IV.f0 h x3⟩
/-! parting -/
theorem mix_t {t10 : S10} {W odd : Nat} (hs : s10_size t10 = nI W) (h16 : W ≤ 16) (ho : odd < W) : An (F_X10_mix t10 (nI odd)) (fun s => s10_size s = nI W ∧ s10_meanings s = s10_meanings t10 ∧ s10_syllables s = s10_syllables t10 ∧ (∀ k, k < 32 → s10_sounds s k = s10_sounds t10 k) ∧ ∀ w, w < W → s10_sounds s (32 + w) = if w = odd then s10_sounds t10 w else s10_sounds t10 (16 + w)) := by
  unfold F_X10_mix
  simp (disch := omega) only [and_true, true_and, and_false, false_and, or_true, true_or, or_false, false_or, not_true_eq_false, not_false_eq_true, nm_at, Option.bind_some, if_true, if_false, ↓k_m1, ↓k_m2, ↓k_m3, ↓k_m5, ↓k_m9, ↓k_m10, ↓k_mno, k_0, k_1, k_2, k_3, k_4, k_5, k_6, k_7, k_8, k_9, k_10, k_11, k_12, k_13, k_14, k_15, k_16, k_17, k_18, k_19, k_20, k_21, k_22, k_23, k_24, k_25, k_26, k_27, k_28, k_29, k_30, k_31, k_32, k_36, k_48, k_50, k_57, k_58, k_59, k_64, k_97, k_99, k_100, k_101, k_102, k_104, k_105, k_107, k_108, k_109, k_110, k_111, k_114, k_115, k_116, k_119, k_122, k_128, k_255, k_500, k_1000, k_1023, k_10000, k_100000, nI_add, nI_mul, nI_sub, nI_sub0, nI_leI, nI_ltI, nI_eq, nM_lt, nM_le, nM_nlt, nM_nle, nM_ne, nM_ne', nM_eq, q_ii, q_ia, q_ij, q_it, q_aa, q_ai, q_aj, q_at, q_jj, q_ji, q_ja, q_jt, q_tt, q_ti, q_ta, q_tj, u_at, uL_at, Nat.zero_mul, Nat.mul_zero, Nat.one_mul, Nat.mul_one, Nat.zero_add, Nat.add_zero, nI_toInt, agN, asN, agLN, asLN, atvN, setvN, if_pos, if_neg]
  refine lp_up (fun q v s => F_X10_mix_b2 (nI odd) q v s) W (fun m s => s10_size s = nI W ∧ s10_meanings s = s10_meanings t10 ∧ s10_syllables s = s10_syllables t10 ∧ (∀ k, k < 32 → s10_sounds s k = s10_sounds t10 k) ∧ ∀ w, w < m → s10_sounds s (32 + w) = if w = odd then s10_sounds t10 w else s10_sounds t10 (16 + w)) _ ?_ ?_ fu 0 t10 (by omega) (by unfold fu; omega) ⟨hs, rfl, rfl, fun _ _ => rfl, fun w hw => by omega⟩
  · intro q m s hm ⟨h1, h2, h3, h4, h5⟩ hK
    have key : ∀ k : Nat, k < 2 → (k = 0 ↔ m = odd) → An (F_X10_mix_b29 (nI odd) (F_X10_mix_b2 (nI odd) q) (nI m) s (nI (32 + m)) (nI k)) (fun s => s10_size s = nI W ∧ s10_meanings s = s10_meanings t10 ∧ s10_syllables s = s10_syllables t10 ∧ (∀ k, k < 32 → s10_sounds s k = s10_sounds t10 k) ∧ ∀ w, w < W → s10_sounds s (32 + w) = if w = odd then s10_sounds t10 w else s10_sounds t10 (16 + w)) := by
      intro k hk ek
      unfold F_X10_mix_b29
      rw [sound_t]
      simp (disch := omega) only [set_total, and_true, true_and, and_false, false_and, or_true, true_or, or_false, false_or, not_true_eq_false, not_false_eq_true, nm_at, Option.bind_some, if_true, if_false, ↓k_m1, ↓k_m2, ↓k_m3, ↓k_m5, ↓k_m9, ↓k_m10, ↓k_mno, k_0, k_1, k_2, k_3, k_4, k_5, k_6, k_7, k_8, k_9, k_10, k_11, k_12, k_13, k_14, k_15, k_16, k_17, k_18, k_19, k_20, k_21, k_22, k_23, k_24, k_25, k_26, k_27, k_28, k_29, k_30, k_31, k_32, k_36, k_48, k_50, k_57, k_58, k_59, k_64, k_97, k_99, k_100, k_101, k_102, k_104, k_105, k_107, k_108, k_109, k_110, k_111, k_114, k_115, k_116, k_119, k_122, k_128, k_255, k_500, k_1000, k_1023, k_10000, k_100000, nI_add, nI_mul, nI_sub, nI_sub0, nI_leI, nI_ltI, nI_eq, nM_lt, nM_le, nM_nlt, nM_nle, nM_ne, nM_ne', nM_eq, q_ii, q_ia, q_ij, q_it, q_aa, q_ai, q_aj, q_at, q_jj, q_ji, q_ja, q_jt, q_tt, q_ti, q_ta, q_tj, u_at, uL_at, Nat.zero_mul, Nat.mul_zero, Nat.one_mul, Nat.mul_one, Nat.zero_add, Nat.add_zero, nI_toInt, agN, asN, agLN, asLN, atvN, setvN, if_pos, if_neg]
      have hv : s10_sounds s (k * 16 + m) = if m = odd then s10_sounds t10 m else s10_sounds t10 (16 + m) := by
        rw [h4 _ (by omega)]
        by_cases c : m = odd
        · rw [if_pos c, ek.mpr c]; exact congrArg _ (by omega)
        · rw [if_neg c]
          have : k = 1 := by
            by_cases z : k = 0
            · exact absurd (ek.mp z) c
            · omega
          rw [this]
      rw [hv]
      refine hK _ ⟨h1, h2, h3, fun j hj => ?_, fun w hw => ?_⟩
      · show upd (s10_sounds s) (32 + m) _ j = _
        rw [u_at, if_neg (by omega)]; exact h4 j hj
      · show upd (s10_sounds s) (32 + m) _ (32 + w) = _
        rw [u_at]
        by_cases c : w = m
        · rw [if_pos (by omega), c]
        · rw [if_neg (by omega)]; exact h5 w (by omega)
    show An (F_X10_mix_b2 (nI odd) (q + 1) (nI m) s) _
    rw [F_X10_mix_b2, h1, if_neg (nI_ge hm (by omega)), show (32 : Int32) + nI m = nI (32 + m) from nI_add 32 m]
    by_cases c : m = odd
    · rw [if_pos (by rw [c])]
      exact key 0 (by omega) ⟨fun _ => c, fun _ => rfl⟩
    · rw [if_neg (by rw [nI_eq (by omega) (by omega)]; exact c)]
      exact key 1 (by omega) ⟨fun z => by omega, fun z => absurd z c⟩
  · intro q s hI
    show An (F_X10_mix_b2 (nI odd) (q + 1) (nI W) s) _
    rw [F_X10_mix_b2, hI.1, if_pos (nI_le (Nat.le_refl W) (by omega))]
    exact An_some hI
theorem mix_wr {s t : S10} {W : Nat} {r : Nat → Int32} (h : WR t W r) (h1 : s10_size s = nI W) (h2 : s10_meanings s = s10_meanings t) (h3 : s10_syllables s = s10_syllables t) (h4 : ∀ k, k < 32 → s10_sounds s k = s10_sounds t k) : WR s W r := by
  have h16 := h.1
  refine ⟨h.1, h1, fun w hw => ?_⟩
  obtain ⟨⟨e1, e2, e3, e4⟩, e5⟩ := h.2.2 w hw
  rw [h2, h3, h4 w (by omega), h4 (16 + w) (by omega)]
  exact ⟨⟨e1, e2, e3, e4⟩, e5⟩
/-- the first word for which a thing holds -/
theorem part_same {W : Nat} {c : Nat → Prop} {r r2 : Int32} (h : empP (fun w => ¬ c w) W r) (h2 : empP (fun w => ¬ c w) W r2) : r = r2 := emp_uniq h h2
