/-! ===== mended: both the same ===== -/
theorem op_mended {st : SX} {ms : SM} (h : Inv st ms) (a1 a2 a3 : Int32) : ∃ (r r2 : Int32) (st2 : SX) (ms2 : SM), X_mended st a1 a2 a3 = some (r, st2) ∧ M_mended ms a1 a2 a3 = some (r2, ms2) ∧ r = r2 ∧ Inv st2 ms2 := by
  obtain ⟨o, tx, ve, tr, me, gu, ch, row, i1, i2, t7, t10, t1, tp, ts, p7, p10, p1, pp, ps⟩ := st
  obtain ⟨W, F, P, S, T, ⟨hW, hF, hP, hS, hT⟩, hTX, hWR, hFR, hMR, hLP, hLS, hI1, hI2, hMo, hTr⟩ := (show IV o tx tr row i1 i2 t7 t10 t1 tp ts pp ps ms from h)
  have hP8 := hLP.1
  have hW16 := hWR.1
  have hF2 := hFR.1
  have hS6 := hLS.1
  have hs := hLP.2.2.1.1
  have fin : ∀ (x : Int32 × S3) (q : Int32 × SM), F_X11_mended o me t7 t1 tp t10 a1 a2 a3 = some x → F_X12_mended ms a1 a2 a3 = some q → x.1 = q.1 → Fr scI scA scJ ms q.2 → ∃ (r r2 : Int32) (st2 : SX) (ms2 : SM), X_mended (o, tx, ve, tr, me, gu, ch, row, i1, i2, t7, t10, t1, tp, ts, p7, p10, p1, pp, ps) a1 a2 a3 = some (r, st2) ∧ M_mended ms a1 a2 a3 = some (r2, ms2) ∧ r = r2 ∧ Inv st2 ms2 := by
    intro x q x1 q1 hq hf
    exact ⟨x.1, q.1, (o, tx, ve, tr, x.2, gu, ch, row, i1, i2, t7, t10, t1, tp, ts, p7, p10, p1, pp, ps), q.2, by unfold X_mended; rw [x1]; rfl, by unfold M_mended; rw [q1]; rfl, hq, IV.f0 h hf⟩
  by_cases c1 : (0 ≤ a1.toInt ∧ a1.toInt < F) ∧ 0 ≤ a2.toInt ∧ a2.toInt < 2
  · by_cases c2 : a3 = -1 ∨ ∃ i, i < P ∧ a3 = nI i
    · obtain ⟨f, hf, rfl⟩ := Lb.of c1.1
      obtain ⟨d, hd, rfl⟩ := Lb.of (n := 2) c1.2
      obtain ⟨ok, hok⟩ : ∃ ok : Nat → Nat → Bool, ∀ i w, ok i w = (decide (mA ms 9 (4 * w + 2) = mA ms 9 (4 * cn (mA ms 21 (1 + 3 * i)) + 2)) && okv (mA ms 11) (mA ms 9) (vL (mA ms 10) f i) w (mA ms 21 (1 + (3 * i + 2)))) := ⟨fun i w => _, fun _ _ => rfl⟩
      have hpl : ∀ i, i < P → mA ms 21 (1 + 3 * i) = nI (cn (mA ms 21 (1 + 3 * i))) ∧ cn (mA ms 21 (1 + 3 * i)) < W := fun i hi => Lb_cn (hLP.2.2.2 i hi).1 (by omega)
      have hG : GM t7 t10 t1 tp W F P f d (mA ms 10) (mA ms 11) (mA ms 9) (fun w => mA ms 9 (4 * w + d)) (fun i => cn (mA ms 21 (1 + 3 * i))) (fun i => mA ms 21 (1 + (3 * i + 2))) := by
        refine ⟨hMR, hWR, hFR, hf, hs, hP8, by omega, snd_d hWR hd, fun i hi => ?_⟩
        have e := hLP.2.2.1.2 i hi
        unfold ln ln3 at e
        simp only [Prod.mk.injEq] at e
        obtain ⟨e1, -, e3⟩ := e
        rw [atvN (by omega) (by omega), atvN (by omega) (by omega), e1, e3]
        exact ⟨(hpl i hi).1, (hpl i hi).2, rfl⟩
      have hsd : ∀ w, w < W → Lb (mA ms 9 (4 * w + d)) 26 := by
        intro w hw
        obtain ⟨-, b1, b2, -⟩ := hWR.2.2 w hw
        rcases (show d = 0 ∨ d = 1 from by omega) with e | e
        · rw [e]; exact b1
        · rw [e]; exact b2
      have hL : ∀ i, i < P → vL (mA ms 10) f i < 8 := fun i _ => (vL_lt hFR hf i).1
      have hN : F_X11_isNoLineNorAll o t7 tp a3 = some 0 := by
        unfold F_X11_isNoLineNorAll
        rcases c2 with e | ⟨i, hi, e⟩
        · rw [if_pos e]
        · rw [if_neg (fun q => by have := congrArg Int32.toInt (e.symm.trans q); rw [nI_toInt (by omega), pzm1] at this; omega), has_t tp (by omega) hs, Option.bind_some, if_pos (show 0 ≤ a3.toInt ∧ a3.toInt < P from by rw [e, nI_toInt (by omega)]; omega), if_neg (show ¬ (1 : Int32) = 0 from by decide)]
      -- the reference, up to its loop
      have ref : ∀ T : Int32 × SM → Prop, (∀ s', Fr scI scA scJ ms s' → MH W P f (vL (mA ms 10) f) (fun i w => okv (mA ms 11) (mA ms 9) (vL (mA ms 10) f i) w (mA ms 21 (1 + (3 * i + 2)))) (fun i => cn (mA ms 21 (1 + 3 * i))) s' → (∀ w, w < W → mA s' 31 w = mA ms 9 (4 * w + d)) → mA s' 9 = mA ms 9 → An (F_X12_mended_b41 (nI f) (nI d) a3 fu (nI 0) s') T) → An (F_X12_mended ms (nI f) (nI d) a3) T := by
        intro T hT
        have b29 : An (F_X12_mended_b29 (nI f) (nI d) a3 (mIs ms 0 0)) T := by
          unfold F_X12_mended_b29
          refine lh_t W (s := mIs ms 0 0) hP hP8 (by omega) fun s' ⟨g1, g2, g3, g4⟩ => ?_
          have g0 : Fr scI scA scJ ms s' := (fr0 ms).tr (g1.wd (by decide) (by decide) (by decide))
          rw [nm_at]
          exact hT s' g0 (MH_ok hMR hWR hFR hf hP8 hW hLP.2.2.2 g0 g2 g3) (fun w hw => g4 w (by omega)) (g0.2.1 9 (by decide))
        unfold F_X12_mended
        rw [nm_at, isForm_t (s := mIs ms 0 0) hF (by omega), Option.bind_some, if10, if_pos c1]
        by_cases c3 : a3 = -1
        · rw [if_pos c3]; exact b29
        · rcases c2 with c2 | ⟨i, hi, e⟩
          · exact absurd c2 c3
          · rw [if_neg c3, isLine_t (s := mIs ms 0 0) hP (by omega), Option.bind_some, if10, if_pos (show 0 ≤ a3.toInt ∧ a3.toInt < P from by rw [e, nI_toInt (by omega)]; omega)]
            exact b29
      obtain ⟨⟨a, z⟩, x1, x2⟩ := mend_t hG (ok := ok) (fun i w _ _ => hok i w) me
      have hX : ∀ b : Int32, (if a < 0 then some (a, z) else (if 0 ≤ a3 then (F_X3_wordAt z a3).bind fun q_5 => some (q_5, z) else some (a, z))) = some (b, z) → F_X11_mended o me t7 t1 tp t10 (nI f) (nI d) a3 = some (b, z) := by
        intro b hb
        unfold F_X11_mended
        rw [noView_t o t7 hFR.2.1 (by omega), Option.bind_some, if_pos c1, if_pos rfl, hN, Option.bind_some, if_pos rfl, x1, Option.bind_some, nm_at]
        exact hb
      rcases x2 with ⟨R, p1, p2, p3⟩ | ⟨p1, p2⟩
      · have p3 : a = nI (sm (fun i => cow (fun i => cn (mA ms 21 (1 + 3 * i))) i (R i)) P) := p3
        obtain ⟨q, q1, q2, q3⟩ := ref (fun q => ((a3 = -1 ∧ q.1 = nI (cost (vL (mA ms 10) f) P (cow (fun i => cn (mA ms 21 (1 + 3 * i)))) R)) ∨ ∃ i, i < P ∧ a3 = nI i ∧ q.1 = nI (R i)) ∧ Fr scI scA scJ ms q.2) fun s' g0 hH g4 g9 => An_mono (mref_g (nI d) hH (ok := ok) (fun i w _ _ => by rw [g9]; exact hok i w) p1 (fun i hi => (p2 i hi).1) hsd g4 c2) fun q hq => ⟨hq.1, g0.tr (hq.2.wd (by decide) (by decide) (by decide))⟩
        have hsm : ∀ m, sm (fun i => cow (fun i => cn (mA ms 21 (1 + 3 * i))) i (R i)) m ≤ m := by
          intro m
          induction m with
          | zero => exact Nat.le_refl _
          | succ m ih => rw [sm]; have := cow_le (pw := fun i => cn (mA ms 21 (1 + 3 * i))) m (R m); omega
        have hb := hsm P
        have ha : ¬ a < 0 := by rw [p3]; exact nI_pos (by omega)
        rcases q2 with ⟨e, g⟩ | ⟨i, hi, e, g⟩
        · refine fin (a, z) q (hX a ?_) q1 ?_ q3
          · rw [if_neg ha, if_neg (show ¬ (0 : Int32) ≤ a3 from by rw [e]; decide)]
          · show a = q.1
            rw [g, cost_ts P hL]; exact p3
        · refine fin (nI (R i), z) q (hX _ ?_) q1 g.symm q3
          rw [if_neg ha, if_pos (show (0 : Int32) ≤ a3 from by rw [e]; exact nI_pos' (by omega)), e]
          unfold F_X3_wordAt
          rw [at_total (by omega), Option.bind_some, atvN (by omega) (by omega), Option.bind_some]
          have ez : s3_row z i = nI (R i) := (p2 i hi).2
          rw [ez]
      · have p1 : a = -9 := p1
        obtain ⟨q, q1, q2, q3⟩ := ref (fun q => q.1 = -9 ∧ Fr scI scA scJ ms q.2) fun s' g0 hH g4 g9 => An_mono (mref_n (nI d) hH (ok := ok) (fun i w _ _ => by rw [g9]; exact hok i w) p2 g4) fun q hq => ⟨hq.1, g0.tr (hq.2.wd (by decide) (by decide) (by decide))⟩
        refine fin (a, z) q (hX a ?_) q1 ?_ q3
        · rw [if_pos (show a < 0 from by rw [p1]; decide)]
        · show a = q.1
          rw [p1, q2]
    · have c3 : ¬ a3 = -1 := fun e => c2 (Or.inl e)
      have c4 : ¬ (0 ≤ a3.toInt ∧ a3.toInt < P) := fun e => c2 (Or.inr (Lb.of e))
      refine fin (-1, me) (-1, mIs ms 0 0) ?_ ?_ rfl (fr0 ms)
      · unfold F_X11_mended F_X11_isNoLineNorAll
        rw [noView_t o t7 hFR.2.1 (by omega), Option.bind_some, if_pos c1, if_pos rfl, if_neg c3, has_t tp (by omega) hs, Option.bind_some, if_neg c4, if_pos rfl, Option.bind_some, if_neg (show ¬ (1 : Int32) = 0 from by decide)]
      · unfold F_X12_mended
        rw [nm_at, isForm_t (s := mIs ms 0 0) hF (by omega), Option.bind_some, if10, if_pos c1, if_neg c3, isLine_t (s := mIs ms 0 0) hP (by omega), Option.bind_some, if10, if_neg c4]
  · refine fin (-1, me) (-1, mIs ms 0 0) ?_ ?_ rfl (fr0 ms)
    · unfold F_X11_mended
      rw [noView_t o t7 hFR.2.1 (by omega), Option.bind_some, if_neg c1, if_neg (show ¬ (1 : Int32) = 0 from by decide)]
    · unfold F_X12_mended
      rw [nm_at, isForm_t (s := mIs ms 0 0) hF (by omega), Option.bind_some, if10, if_neg c1]
