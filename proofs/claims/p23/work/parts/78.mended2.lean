/-! ===== mended: the reference's lines in turn ===== -/
theorem mended_nar {W n f k : Nat} {aL : Nat → Nat} {okm : Nat → Nat → Bool} {pw : Nat → Nat} {s : SM} (x2 : Int32) (hH : MH W n f aL okm pw s) (hk : k < n) : ∀ g j z fl, j + g = k + 1 → g < fl → Fr [] mA3 [] s z → fa aL W n (alw okm (mA z 32) (mA z 31)) (cow pw) < 1000 → (∀ i, i < j → ∃ w, sg (mA z 32 i) w) → An (F_X12_mended_b162 (nI f) x2 (nI k) fl (nI (fa aL W n (alw okm (mA z 32) (mA z 31)) (cow pw))) (nI j) z) (fun q => Fr [] mA3 [] s q.2) := by
  have h16 := hH.2.1
  have h8 := hH.2.2.2.1
  intro g
  induction g with
  | zero =>
    intro j z fl hj hfl hz hfa hs
    obtain ⟨q, rfl⟩ : ∃ q, fl = q + 1 := ⟨fl - 1, by omega⟩
    obtain rfl : j = k + 1 := by omega
    obtain ⟨w, hw⟩ := hs k (by omega)
    rw [F_X12_mended_b162, if_pos (nI_lt (by omega) (by omega)), if_pos (show (0 : Int32) ≤ nI k from nI_pos' (by omega)), nm_at]
    exact An_mono (last_lp (by omega) hw) fun q hq => by rw [hq.2]; exact hz
  | succ g ih =>
    intro j z fl hj hfl hz hfa hs
    obtain ⟨q, rfl⟩ : ∃ q, fl = q + 1 := ⟨fl - 1, by omega⟩
    rw [F_X12_mended_b162, if_neg (nI_nlt (by omega) (by omega)), agN (by omega) (by omega), Option.bind_some, nm_at, nm_at, nm_at]
    refine narrow_t (hH.fr hz) (by omega) hfa fun z2 hz2 => ?_
    obtain ⟨f1, o1, w, hw, hb, e, ef, -⟩ := hz2
    have e31 : mA z2 31 = mA z 31 := f1.2.1 31 (by decide)
    have efa : fa aL W n (alw okm (mA z2 32) (mA z2 31)) (cow pw) = fa aL W n (alw okm (mA z 32) (mA z 31)) (cow pw) := by
      rw [e31]
      exact (fa_cg fun t i w2 _ _ hw2 => alw_one (by omega) e o1 (by omega)).trans ef
    rw [← efa]
    refine ih (j + 1) z2 q (by omega) (by omega) (hz.tr f1) (by omega) fun i hi => ?_
    by_cases c : i = j
    · rw [c, e]; exact ⟨w, sg_and (by omega) hb⟩
    · rw [o1 i c]; exact hs i (by omega)
theorem mended_lp {W n f : Nat} {aL : Nat → Nat} {okm : Nat → Nat → Bool} {pw : Nat → Nat} {s : SM} (x2 : Int32) {x3 : Int32} (hH : MH W n f aL okm pw s) (h3 : x3 = -1 ∨ ∃ i, i < n ∧ x3 = nI i) : An (F_X12_mended_b41 (nI f) x2 x3 fu (nI 0) s) (fun q => Fr [] mA3 [] s q.2) := by
  have h13 := hH.1
  have h16 := hH.2.1
  have h25 := hH.2.2.1
  have h8 := hH.2.2.2.1
  refine lp_up (fun q v z => F_X12_mended_b41 (nI f) x2 x3 q v z) n (fun _ z => Fr [] mA3 [] s z) _ ?_ ?_ fu 0 s (by omega) (by unfold fu; omega) (Fr.rf s)
  · intro q m y hm hy hK
    have e25 : mI y 25 = nI n := (hy.1 25 (by simp)).trans h25
    show An (F_X12_mended_b41 (nI f) x2 x3 (q + 1) (nI m) y) _
    rw [F_X12_mended_b41, e25, if_neg (nI_ge hm (by omega)), asN _ (by omega) (by omega), Option.bind_some, nm_at, nm_at]
    refine lp_up (fun q2 v z => F_X12_mended_b61 (nI f) x2 x3 (F_X12_mended_b41 (nI f) x2 x3 q) q2 (nI m) v z) W (fun _ z => Fr [] mA3 [] s z) _ ?_ ?_ fu 0 _ (by omega) (by unfold fu; omega) (hy.a 32 _ (by decide))
    · intro q2 w z hw hz hK2
      have z13 : mI z 13 = nI W := (hz.1 13 (by simp)).trans h13
      have hp := (hH.fr hz).2.2.2.2.2.2 m hm
      have hp1 := hp.2
      have e21 : mA z 21 (1 + 3 * m) = nI (pw m) := by rw [hz.2.1 21 (by decide)]; exact (hH.2.2.2.2.2.2 m hm).1
      have ix : ∀ v : Nat, (4 : Int32) * nI v + 2 = nI (4 * v + 2) := fun v => by rw [show (4 : Int32) * nI v = nI (4 * v) from nI_mul 4 v]; exact nI_add _ 2
      show An (F_X12_mended_b61 (nI f) x2 x3 (F_X12_mended_b41 (nI f) x2 x3 q) (q2 + 1) (nI m) (nI w) z) _
      rw [F_X12_mended_b61, z13, if_neg (nI_ge hw (by omega)), agN (by omega) (by omega), Option.bind_some, ix w, agN (by omega) (by omega), Option.bind_some, show (1 : Int32) + 3 * nI m = nI (1 + 3 * m) from by rw [show (3 : Int32) * nI m = nI (3 * m) from nI_mul 3 m]; exact nI_add 1 _, agN (by omega) (by omega), Option.bind_some, e21, ix (pw m), agN (by omega) (by omega), Option.bind_some]
      have k120 : ∀ a b : Int32, An (F_X12_mended_b120 (nI f) x2 x3 (F_X12_mended_b41 (nI f) x2 x3 q) (F_X12_mended_b61 (nI f) x2 x3 (F_X12_mended_b41 (nI f) x2 x3 q) q2) (nI m) (nI w) z (nI m) a b) (fun q => Fr [] mA3 [] s q.2) := by
        intro a b
        unfold F_X12_mended_b120
        rw [asN _ (by omega) (by omega), Option.bind_some, nm_at, nm_at, nI_1]
        exact hK2 _ (hz.a 32 _ (by decide))
      exact An_if (fun _ => k120 _ _) (fun _ => k120 _ _)
    · intro q2 z hz
      have z13 : mI z 13 = nI W := (hz.1 13 (by simp)).trans h13
      show An (F_X12_mended_b61 (nI f) x2 x3 (F_X12_mended_b41 (nI f) x2 x3 q) (q2 + 1) (nI m) (nI W) z) _
      rw [F_X12_mended_b61, z13, if_pos (nI_le (Nat.le_refl W) (by omega)), nm_at, nI_1]
      exact hK _ hz
  · intro q y hy
    have e25 : mI y 25 = nI n := (hy.1 25 (by simp)).trans h25
    obtain ⟨⟨r, y2⟩, e1, e2, e3⟩ := fewAll_t (hH.fr hy)
    simp only [] at e2 e3
    have hy2 : Fr [] mA3 [] s y2 := hy.tr (e3.wd (fun _ x => x) (by decide) (fun _ x => x))
    have ef : fa aL W n (alw okm (mA y2 32) (mA y2 31)) (cow pw) = fa aL W n (alw okm (mA y 32) (mA y 31)) (cow pw) := by
      rw [e3.2.1 32 (by decide), e3.2.1 31 (by decide)]
    have bd : fa aL W n (alw okm (mA y2 32) (mA y2 31)) (cow pw) ≤ 1000 := by unfold fa; split <;> omega
    rw [← ef] at e2
    show An (F_X12_mended_b41 (nI f) x2 x3 (q + 1) (nI n) y) _
    rw [F_X12_mended_b41, e25, if_pos (nI_le (Nat.le_refl n) (by omega)), e1, Option.bind_some, nm_at, e2]
    refine An_if (fun _ => An_some hy2) (fun _ => ?_)
    by_cases c : fa aL W n (alw okm (mA y2 32) (mA y2 31)) (cow pw) < 1000
    · rw [if_pos (show nI (fa aL W n (alw okm (mA y2 32) (mA y2 31)) (cow pw)) < 1000 from nI_lt (b := 1000) c (by omega)), nm_at]
      rcases h3 with h3 | ⟨k, hk, h3⟩
      · obtain ⟨u, eu⟩ : ∃ u, fu = u + 1 := ⟨fu - 1, by unfold fu; omega⟩
        rw [eu, F_X12_mended_b162, if_pos (show x3 < (0 : Int32) from by rw [h3]; decide), if_neg (show ¬ (0 : Int32) ≤ x3 from by rw [h3]; decide)]
        exact An_some hy2
      · rw [h3]
        exact mended_nar x2 hH hk (k + 1) 0 y2 fu (by omega) (by unfold fu; omega) hy2 c fun i hi => by omega
    · rw [if_neg (show ¬ nI (fa aL W n (alw okm (mA y2 32) (mA y2 31)) (cow pw)) < 1000 from nI_nlt (b := 1000) (by omega) (by omega))]
      exact An_some hy2
/-- mended: both answer -/
theorem op_mended0 {st : SX} {ms : SM} (h : Inv st ms) (a1 a2 a3 : Int32) : ∃ (r r2 : Int32) (st2 : SX) (ms2 : SM), X_mended st a1 a2 a3 = some (r, st2) ∧ M_mended ms a1 a2 a3 = some (r2, ms2) ∧ Inv st2 ms2 := by
  obtain ⟨o, tx, ve, tr, me, gu, ch, row, i1, i2, t7, t10, t1, tp, ts, p7, p10, p1, pp, ps⟩ := st
  obtain ⟨W, F, P, S, T, ⟨hW, hF, hP, hS, hT⟩, hTX, hWR, hFR, hMR, hLP, hLS, hI1, hI2, hMo, hTr⟩ := (show IV o tx tr row i1 i2 t7 t10 t1 tp ts pp ps ms from h)
  have hP8 := hLP.1
  have hW16 := hWR.1
  have hF2 := hFR.1
  have hS6 := hLS.1
  have hs := hLP.2.2.1.1
  obtain ⟨x, x1, -⟩ := mendedX_tot (o := o) (t7 := t7) (t1 := t1) (tp := tp) (w := t10) hWR.2.1 hW16 hs hP8 hFR.2.1 hF2 me a1 a2 a3
  have hM : An (F_X12_mended ms a1 a2 a3) (fun q => Fr scI scA scJ ms q.2) := by
    unfold F_X12_mended
    rw [nm_at, isForm_t (s := mIs ms 0 0) hF (by omega), Option.bind_some, if10]
    by_cases c1 : (0 ≤ a1.toInt ∧ a1.toInt < F) ∧ 0 ≤ a2.toInt ∧ a2.toInt < 2
    · rw [if_pos c1]
      obtain ⟨f, hf, rfl⟩ := Lb.of c1.1
      obtain ⟨d, hd, rfl⟩ := Lb.of (n := 2) c1.2
      have b29 : (a3 = -1 ∨ ∃ i, i < P ∧ a3 = nI i) → An (F_X12_mended_b29 (nI f) (nI d) a3 (mIs ms 0 0)) (fun q => Fr scI scA scJ ms q.2) := by
        intro h4
        unfold F_X12_mended_b29
        refine lh_t W (s := mIs ms 0 0) hP hP8 (by omega) fun s' ⟨g1, g2, g3, g4⟩ => ?_
        have g0 : Fr scI scA scJ ms s' := (fr0 ms).tr (g1.wd (by decide) (by decide) (by decide))
        have hH := MH_ok hMR hWR hFR hf hP8 hW hLP.2.2.2 g0 g2 g3
        rw [nm_at]
        refine An_mono (mended_lp (nI d) hH h4) fun q hq => g0.tr (hq.wd (by decide) (by decide) (by decide))
      by_cases c2 : a3 = -1
      · rw [if_pos c2]; exact b29 (Or.inl c2)
      · rw [if_neg c2, isLine_t (s := mIs ms 0 0) hP (by omega), Option.bind_some, if10]
        by_cases c3 : 0 ≤ a3.toInt ∧ a3.toInt < P
        · rw [if_pos c3]
          obtain ⟨i, hi, e⟩ := Lb.of c3
          exact b29 (Or.inr ⟨i, hi, e⟩)
        · rw [if_neg c3]; exact An_some (fr0 ms)
    · rw [if_neg c1]; exact An_some (fr0 ms)
  obtain ⟨q, q1, q2⟩ := hM
  exact ⟨x.1, q.1, (o, tx, ve, tr, x.2, gu, ch, row, i1, i2, t7, t10, t1, tp, ts, p7, p10, p1, pp, ps), q.2, by unfold X_mended; rw [x1]; rfl, by unfold M_mended; rw [q1]; rfl, IV.f0 h q2⟩
