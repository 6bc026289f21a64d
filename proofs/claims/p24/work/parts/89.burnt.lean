/-! ===== burnt: both the same ===== -/
theorem i64_n : ∀ c : Fin 17, Int32.toInt64 (nI c.val) = jN c.val := by decide +kernel
theorem bvu {x4 : Int32} {n : Nat} (hn : n ≤ 8) {A : Int64} {B : Nat → Int64} {r r2 : Int64} (h : (x4 = -1 ∧ r = A) ∨ ∃ i, i < n ∧ x4 = nI i ∧ r = B i) (h2 : (x4 = -1 ∧ r2 = A) ∨ ∃ i, i < n ∧ x4 = nI i ∧ r2 = B i) : r = r2 := by
  have no : ∀ i, i < n → x4 = -1 → ¬ x4 = nI i := by
    intro i hi e e2
    have := congrArg Int32.toInt (e.symm.trans e2)
    rw [nI_toInt (by omega), pzm1] at this
    omega
  rcases h with ⟨e, a⟩ | ⟨i, i1, i2, a⟩
  · rcases h2 with ⟨_, b⟩ | ⟨j, j1, j2, b⟩
    · rw [a, b]
    · exact absurd j2 (no j j1 e)
  · rcases h2 with ⟨e, b⟩ | ⟨j, j1, j2, b⟩
    · exact absurd i2 (no i i1 e)
    · have e : nI i = nI j := i2.symm.trans j2
      rw [nI_eq (by omega) (by omega)] at e
      rw [a, b, e]
/-- the answer, by ways -/
def bA (L : Nat → Nat) (W n : Nat) (ok un : Nat → Nat → Bool) (sd : Nat → Int32) (x4 : Int32) (r : Int64) : Prop := (x4 = -1 ∧ r = jN (wa L W n (als ok sd))) ∨ ∃ i, i < n ∧ x4 = nI i ∧ r = jN (ctp (fun w => un i w && decide (0 < wa L W n (als (one ok i w) sd))) W)
theorem burntX_t {o : S11} {t7 : S7} {t10 : S10} {t1 : S1} {tp : S4} {W F P f d : Nat} {rf rm rw sd bf : Nat → Int32} {pw : Nat → Nat} (h : GH t7 t10 t1 tp W F P f d rf rm rw sd pw bf) (hd2 : d < 2) (hsd : ∀ w, w < W → Lb (sd w) 26) {set : Int32} {ok un : Nat → Nat → Bool} (hun : ∀ i w, i < P → w < W → un i w = (tb set i || decide (w = pw i))) (hok : ∀ i w, i < P → w < W → ok i w = (un i w && okv rm rw (vL rf f i) w (bf i))) (s : S2) {x4 : Int32} (h4 : x4 = -1 ∨ ∃ i, i < P ∧ x4 = nI i) : An (F_X11_burnt o s t7 t1 tp t10 (nI f) (nI d) set x4) (fun q => bA (vL rf f) W P ok un sd x4 q.1) := by
  have hG := h
  obtain ⟨hM, hW, hF, hf, hp, h8, hd, hs, hpp⟩ := h
  have h16 := hW.1
  have hF2 := hF.1
  have hL : ∀ i, i < P → vL rf f i < 8 := fun i _ => (vL_lt hF hf i).1
  have hlt := pow16 h8 (wa_bd (L := vL rf f) (n := P) (ok := ok) h16 hsd)
  have hN : F_X11_isNoLineNorAll o t7 tp x4 = some 0 := by
    unfold F_X11_isNoLineNorAll
    rcases h4 with e | ⟨i, hi, e⟩
    · rw [if_pos e]
    · rw [if_neg (fun q => by have := congrArg Int32.toInt (e.symm.trans q); rw [nI_toInt (by omega), pzm1] at this; omega), has_t tp (by omega) hp, Option.bind_some, if_pos (show 0 ≤ x4.toInt ∧ x4.toInt < P from by rw [e, nI_toInt (by omega)]; omega), if_neg (show ¬ (1 : Int32) = 0 from by decide)]
  unfold F_X11_burnt
  rw [noView_t o t7 hF.2.1 (by omega), Option.bind_some, if_pos (show (0 ≤ (nI f).toInt ∧ (nI f).toInt < F) ∧ 0 ≤ (nI d).toInt ∧ (nI d).toInt < 2 from by rw [nI_toInt (by omega), nI_toInt (by omega)]; omega), if_pos rfl, hN, Option.bind_some, if_pos rfl]
  refine An_bind (waysOfX_t hG (ok := ok) (fun i w hi hw => by rw [hok i w hi hw, hun i w hi hw]) s) fun q3 h3 => ?_
  rw [nm_at]
  rcases h4 with e | ⟨i, hi, e⟩
  · rw [if_neg (show ¬ (0 : Int32) ≤ x4 from by rw [e]; decide)]
    refine An_some (Or.inl ⟨e, ?_⟩)
    show q3.1 = _
    rcases h3 with ⟨hpr, h3, -⟩ | ⟨hpr, h3⟩
    · rw [h3, wa_pf hL hsd hpr]
    · rw [h3, wa_no hL hpr]
  · rw [if_pos (show (0 : Int32) ≤ x4 from by rw [e]; exact nI_pos' (by omega))]
    rcases h3 with ⟨hpr, h3, hwy⟩ | ⟨hpr, h3⟩
    · rw [h3, ← wa_pf (W := W) (ok := ok) hL hsd hpr]
      by_cases c : wa (vL rf f) W P (als ok sd) = 0
      · rw [if_pos ((lgc hlt).mpr c)]
        refine An_some (Or.inr ⟨i, hi, e, ?_⟩)
        show (0 : Int64) = _
        rw [ctp_0, ← jN_0]
        intro w hw
        rw [decide_eq_false (fun q => by have := ((nar_pos hL hsd hpr hi hw).mp q).1; omega), Bool.and_false]
      · rw [if_neg (fun q => c ((lgc hlt).mp q))]
        refine An_bind (show An (F_X2_wordsOf t7 q3.2 t1 t10 (nI f) (nI d) x4) (fun q => q.1 = nI (ctp (fun w => psb (vL rf f) W P ok sd i w) W)) from by rw [e]; exact words_t hG hsd hi q3.2 hwy) fun q5 h5 => An_some (Or.inr ⟨i, hi, e, ?_⟩)
        show Int32.toInt64 q5.1 = _
        rw [h5, i64_n ⟨ctp (fun w => psb (vL rf f) W P ok sd i w) W, by have := @ctp_le (fun w => psb (vL rf f) W P ok sd i w) W; omega⟩]
        refine congrArg jN (ctp_cg fun w hw => ?_)
        cases hq : psb (vL rf f) W P ok sd i w
        · rw [decide_eq_false (fun q => ?_), Bool.and_false]
          have hq2 := ((nar_pos hL hsd hpr hi hw).mp q).2
          unfold psb at hq
          rw [decide_eq_true hq2] at hq
          cases hq
        · have ho := ps_ok hq
          rw [hok i w hi hw, Bool.and_eq_true] at ho
          rw [ho.1, decide_eq_true, Bool.and_true]
          refine (nar_pos hL hsd hpr hi hw).mpr ⟨by omega, ?_⟩
          unfold psb at hq
          exact of_decide_eq_true hq
    · rw [h3, if_pos ((lgc (x := 0) (by omega)).mpr rfl)]
      refine An_some (Or.inr ⟨i, hi, e, ?_⟩)
      show (0 : Int64) = _
      rw [ctp_0, ← jN_0]
      intro w hw
      rw [decide_eq_false (fun q => by rw [wa_no hL hpr] at q; omega), Bool.and_false]
theorem WH_ok {t7 : S7} {t10 : S10} {t1 : S1} {P W F f : Nat} {ms s : SM} (hM : MR t7 (mA ms 11)) (hWR : WR t10 W (mA ms 9)) (hFR : FR t1 F (mA ms 10)) (hf : f < F) (h8 : P ≤ 8) (h13 : mI ms 13 = nI W) (hfr : Fr scI scA scJ ms s) (h25 : mI s 25 = nI P) (h24 : ∀ j, j < 3 * P → mA s 24 j = mA ms 21 (1 + j)) : WH W P f (vL (mA ms 10) f) (fun i w => okv (mA ms 11) (mA ms 9) (vL (mA ms 10) f i) w (mA ms 21 (1 + (3 * i + 2)))) s := by
  have h16 := hWR.1
  refine ⟨(hfr.1 13 (by decide)).trans h13, h16, h25, h8, fun s' hs' => ?_, fun i _ => (vL_lt hFR hf i).1⟩
  have e10 : mA s' 10 = mA ms 10 := by rw [hs'.2.1 10 (by decide), hfr.2.1 10 (by decide)]
  have e11 : mA s' 11 = mA ms 11 := by rw [hs'.2.1 11 (by decide), hfr.2.1 11 (by decide)]
  have e9 : mA s' 9 = mA ms 9 := by rw [hs'.2.1 9 (by decide), hfr.2.1 9 (by decide)]
  have hF' : FR t1 F (mA s' 10) := by rw [e10]; exact hFR
  refine ⟨fun i hi => ?_, fun i w hi hw => ?_⟩
  · rw [letterOf_t hF' hf (by omega), e10, (vL_lt hFR hf i).2]
  · rw [isMetre_ok hF' hf (by omega) (by omega), e10, e11, e9, hs'.2.1 24 (by decide), h24 (3 * i + 2) (by omega)]
/-- burnt: both answer the same -/
theorem op_burnt {st : SX} {ms : SM} (h : Inv st ms) (a1 a2 a3 a4 : Int32) : ∃ (r r2 : Int64) (st2 : SX) (ms2 : SM), X_burnt st a1 a2 a3 a4 = some (r, st2) ∧ M_burnt ms a1 a2 a3 a4 = some (r2, ms2) ∧ r = r2 ∧ Inv st2 ms2 := by
  obtain ⟨o, tx, ve, tr, me, gu, ch, row, i1, i2, t7, t10, t1, tp, ts, p7, p10, p1, pp, ps⟩ := st
  obtain ⟨W, F, P, S, T, ⟨hW, hF, hP, hS, hT⟩, hTX, hWR, hFR, hMR, hLP, hLS, hI1, hI2, hMo, hTr⟩ := (show IV o tx tr row i1 i2 t7 t10 t1 tp ts pp ps ms from h)
  have hP8 := hLP.1
  have hW16 := hWR.1
  have hF2 := hFR.1
  have hS6 := hLS.1
  have hs := hLP.2.2.1.1
  have fin : ∀ (x : Int64 × S2) (q : Int64 × SM), F_X11_burnt o gu t7 t1 tp t10 a1 a2 a3 a4 = some x → F_X12_burnt ms a1 a2 a3 a4 = some q → x.1 = q.1 → Fr scI scA scJ ms q.2 → ∃ (r r2 : Int64) (st2 : SX) (ms2 : SM), X_burnt (o, tx, ve, tr, me, gu, ch, row, i1, i2, t7, t10, t1, tp, ts, p7, p10, p1, pp, ps) a1 a2 a3 a4 = some (r, st2) ∧ M_burnt ms a1 a2 a3 a4 = some (r2, ms2) ∧ r = r2 ∧ Inv st2 ms2 := by
    intro x q x1 q1 hq hf
    exact ⟨x.1, q.1, (o, tx, ve, tr, me, x.2, ch, row, i1, i2, t7, t10, t1, tp, ts, p7, p10, p1, pp, ps), q.2, by unfold X_burnt; rw [x1]; rfl, by unfold M_burnt; rw [q1]; rfl, hq, IV.f0 h hf⟩
  by_cases c1 : (0 ≤ a1.toInt ∧ a1.toInt < F) ∧ 0 ≤ a2.toInt ∧ a2.toInt < 2
  · by_cases c2 : a4 = -1 ∨ ∃ i, i < P ∧ a4 = nI i
    · obtain ⟨f, hf, rfl⟩ := Lb.of c1.1
      obtain ⟨d, hd, rfl⟩ := Lb.of (n := 2) c1.2
      obtain ⟨un, hun⟩ : ∃ un : Nat → Nat → Bool, ∀ i w, un i w = (tb a3 i || decide (w = cn (mA ms 21 (1 + 3 * i)))) := ⟨fun i w => _, fun _ _ => rfl⟩
      obtain ⟨ok, hok⟩ : ∃ ok : Nat → Nat → Bool, ∀ i w, ok i w = (un i w && okv (mA ms 11) (mA ms 9) (vL (mA ms 10) f i) w (mA ms 21 (1 + (3 * i + 2)))) := ⟨fun i w => _, fun _ _ => rfl⟩
      have hpl : ∀ i, i < P → mA ms 21 (1 + 3 * i) = nI (cn (mA ms 21 (1 + 3 * i))) ∧ cn (mA ms 21 (1 + 3 * i)) < W := fun i hi => Lb_cn (hLP.2.2.2 i hi).1 (by omega)
      have hG : GH t7 t10 t1 tp W F P f d (mA ms 10) (mA ms 11) (mA ms 9) (fun w => mA ms 9 (4 * w + d)) (fun i => cn (mA ms 21 (1 + 3 * i))) (fun i => mA ms 21 (1 + (3 * i + 2))) := by
        refine ⟨hMR, hWR, hFR, hf, hs, hP8, by omega, snd_d hWR hd, fun i hi => ?_⟩
        have e := hLP.2.2.1.2 i hi
        unfold ln ln3 at e
        simp only [Prod.mk.injEq] at e
        obtain ⟨e1, -, e3⟩ := e
        rw [atvN (by omega) (by omega), atvN (by omega) (by omega), e1, e3]
        exact ⟨(hpl i hi).1, (hpl i hi).2, rfl⟩
      have hsd : ∀ w, w < W → Lb (mA ms 9 (4 * w + d)) 26 := by
        intro w hw
        obtain ⟨-, b1, b2, -⟩ := hWR.2.2 w hw
        rcases (show d = 0 ∨ d = 1 from by omega) with e | e
        · rw [e]; exact b1
        · rw [e]; exact b2
      obtain ⟨x, x1, x2⟩ := burntX_t (o := o) hG hd hsd (set := a3) (ok := ok) (un := un) (fun i w _ _ => hun i w) (fun i w _ _ => hok i w) gu c2
      have b33 : An (F_X12_burnt_b33 (nI f) (nI d) a3 a4 (mIs ms 0 0)) (fun q => bA (vL (mA ms 10) f) W P ok un (fun w => mA ms 9 (4 * w + d)) a4 q.1 ∧ Fr scI scA scJ ms q.2) := by
        unfold F_X12_burnt_b33
        refine lh_t W (s := mIs ms 0 0) hP hP8 (by omega) fun s' ⟨g1, g2, g3, g4⟩ => ?_
        have f1 : Fr scI scA scJ ms s' := (fr0 ms).tr (g1.wd (by decide) (by decide) (by decide))
        have hH := WH_ok (s := s') hMR hWR hFR hf hP8 hW f1 g2 g3
        have e31 : ∀ w, w < W → mA s' 31 w = mA ms 9 (4 * w + d) := fun w hw => g4 w (by omega)
        rw [nm_at]
        refine An_mono (burntM_v hH (fun w hw => by rw [e31 w hw]; exact hsd w hw) (pw := fun i => cn (mA ms 21 (1 + 3 * i))) (fun i hi => by rw [f1.2.1 21 (by decide)]; exact hpl i hi) (nI d) a3 (ok := ok) (un := un) (fun i w _ _ => hun i w) (fun i w _ _ => hok i w) c2) fun q hq => ⟨?_, f1.tr (hq.1.wd (by decide) (by decide) (by decide))⟩
        have ew : ∀ ok2 : Nat → Nat → Bool, wa (vL (mA ms 10) f) W P (als ok2 (mA s' 31)) = wa (vL (mA ms 10) f) W P (als ok2 (fun w => mA ms 9 (4 * w + d))) := fun ok2 => wa_cg (fun _ _ _ _ => rfl) e31
        rcases hq.2 with ⟨e, g⟩ | ⟨i, i1, i2, g⟩
        · exact Or.inl ⟨e, by rw [g, ew]⟩
        · refine Or.inr ⟨i, i1, i2, ?_⟩
          rw [g]
          exact congrArg jN (ctp_cg fun w _ => by rw [ew])
      obtain ⟨q, q1, q2, q3⟩ := b33
      refine fin x q x1 ?_ (bvu hP8 x2 q2) q3
      unfold F_X12_burnt
      rw [nm_at, isForm_t (s := mIs ms 0 0) hF (by omega), Option.bind_some, if10, if_pos c1]
      by_cases c3 : a4 = -1
      · rw [if_pos c3]; exact q1
      · rcases c2 with c2 | ⟨i, hi, e⟩
        · exact absurd c2 c3
        · rw [if_neg c3, isLine_t (s := mIs ms 0 0) hP (by omega), Option.bind_some, if10, if_pos (show 0 ≤ a4.toInt ∧ a4.toInt < P from by rw [e, nI_toInt (by omega)]; omega)]
          exact q1
    · have c3 : ¬ a4 = -1 := fun e => c2 (Or.inl e)
      have c4 : ¬ (0 ≤ a4.toInt ∧ a4.toInt < P) := fun e => c2 (Or.inr (Lb.of e))
      refine fin (-1, gu) (-1, mIs ms 0 0) ?_ ?_ rfl (fr0 ms)
      · unfold F_X11_burnt F_X11_burnt_b18 F_X11_isNoLineNorAll
        rw [noView_t o t7 hFR.2.1 (by omega), Option.bind_some, if_pos c1, if_pos rfl, if_neg c3, has_t tp (by omega) hs, Option.bind_some, if_neg c4, if_pos rfl, Option.bind_some, if_neg (show ¬ (1 : Int32) = 0 from by decide)]
      · unfold F_X12_burnt F_X12_burnt_b29
        rw [nm_at, isForm_t (s := mIs ms 0 0) hF (by omega), Option.bind_some, if10, if_pos c1, if_neg c3, isLine_t (s := mIs ms 0 0) hP (by omega), Option.bind_some, if10, if_neg c4]
  · refine fin (-1, gu) (-1, mIs ms 0 0) ?_ ?_ rfl (fr0 ms)
    · unfold F_X11_burnt F_X11_burnt_b18
      rw [noView_t o t7 hFR.2.1 (by omega), Option.bind_some, if_neg c1, if_neg (show ¬ (1 : Int32) = 0 from by decide)]
    · unfold F_X12_burnt F_X12_burnt_b29
      rw [nm_at, isForm_t (s := mIs ms 0 0) hF (by omega), Option.bind_some, if10, if_neg c1]
