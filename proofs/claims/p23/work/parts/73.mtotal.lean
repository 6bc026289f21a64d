/-! ===== the reference always answers: burnt, shortest ===== -/
/-- what the counting of ways reads -/
def RH (W n f : Nat) (s : SM) : Prop := mI s 13 = nI W ∧ W ≤ 16 ∧ mI s 25 = nI n ∧ n ≤ 8 ∧ ∃ (t1 : S1) (F : Nat), FR t1 F (mA s 10) ∧ f < F
theorem RH.fr {W n f : Nat} {s s' : SM} {A J : List Nat} (h : RH W n f s) (hf : Fr [] A J s s') (hA : 10 ∉ A) : RH W n f s' := by
  obtain ⟨h1, h2, h3, h4, t1, F, h5, h6⟩ := h
  exact ⟨(hf.1 13 (by simp)).trans h1, h2, (hf.1 25 (by simp)).trans h3, h4, t1, F, by rw [hf.2.1 10 hA]; exact h5, h6⟩
theorem RH.let {W n f i : Nat} {s : SM} (h : RH W n f s) (hi : i < 9) : ∃ l, l < 8 ∧ F_X12_letterOf s (nI f) (nI i) = some (nI l) := by
  obtain ⟨h1, h2, h3, h4, t1, F, h5, h6⟩ := h
  obtain ⟨e1, e2⟩ := vL_lt h5 h6 i
  exact ⟨_, e1, by rw [letterOf_t h5 h6 (by omega), e2]⟩
theorem RH.met {W n f i w : Nat} {s : SM} (h : RH W n f s) (hi : i < 9) (hw : w < 16) : F_X12_isMetre s (nI f) (nI i) (nI w) = some 0 ∨ F_X12_isMetre s (nI f) (nI i) (nI w) = some 1 := by
  obtain ⟨h1, h2, h3, h4, t1, F, h5, h6⟩ := h
  rw [isMetre_ok h5 h6 hi hw]
  split
  · exact Or.inr rfl
  · exact Or.inl rfl
abbrev wJ : List Nat := [34, 35]
theorem waysOf_tot {W n f : Nat} {s : SM} (h : RH W n f s) (x2 x3 : Int32) : An (F_X12_waysOf s (nI f) x2 x3) (fun q => Fr [] [] wJ s q.2) := by
  have h13 := h.1
  have h16 := h.2.1
  have h25 := h.2.2.1
  have h8 := h.2.2.2.1
  unfold F_X12_waysOf
  rw [nm_at, nm_at]
  refine lp_up (fun q v (x : Int32 × SM) => F_X12_waysOf_b6 (nI f) x2 x3 q x.1 v x.2) n (fun m x => Fr [] [] wJ s x.2) _ ?_ ?_ fu 0 (0, s) (by omega) (by unfold fu; omega) (Fr.rf s)
  · intro q m ⟨c, y⟩ hm hy hK
    simp only [] at hy
    have e13 : mI y 13 = nI W := (hy.1 13 (by simp)).trans h13
    have e25 : mI y 25 = nI n := (hy.1 25 (by simp)).trans h25
    have hR := h.fr hy (by simp)
    obtain ⟨l, hl, el⟩ := hR.let (i := m) (by omega)
    show An (F_X12_waysOf_b6 (nI f) x2 x3 (q + 1) c (nI m) y) _
    rw [F_X12_waysOf_b6, e25, if_neg (nI_ge hm (by omega)), el, Option.bind_some]
    have k202 : ∀ c2 y2, Fr [] [] wJ s y2 → An (F_X12_waysOf_b202 (nI f) x2 x3 (F_X12_waysOf_b6 (nI f) x2 x3 q) c2 (nI m) y2) (fun q => Fr [] [] wJ s q.2) := by
      intro c2 y2 h2
      unfold F_X12_waysOf_b202
      rw [nm_at, nI_1]
      exact hK (c2, y2) h2
    by_cases g : nI l = x2
    · rw [if_pos g, nm_at, nm_at]
      refine lp_up (fun q2 v (a : Int64) => F_X12_waysOf_b32 (nI f) x2 x3 (F_X12_waysOf_b6 (nI f) x2 x3 q) q2 c (nI m) a v y) W (fun _ _ => True) _ ?_ ?_ fu 0 0 (by omega) (by unfold fu; omega) trivial
      · intro q2 w a hw _ hK2
        show An (F_X12_waysOf_b32 (nI f) x2 x3 (F_X12_waysOf_b6 (nI f) x2 x3 q) (q2 + 1) c (nI m) a (nI w) y) _
        rw [F_X12_waysOf_b32, e13, if_neg (nI_ge hw (by omega))]
        unfold F_X12_waysOf_b59
        have k : ∀ a : Int64, An (nm a fun v6_2 => nm (nI w + 1) fun v8_3 => F_X12_waysOf_b32 (nI f) x2 x3 (F_X12_waysOf_b6 (nI f) x2 x3 q) q2 c (nI m) v6_2 v8_3 y) (fun q => Fr [] [] wJ s q.2) := by
          intro a
          rw [nm_at, nm_at, nI_1]
          exact hK2 a trivial
        refine An_if (fun _ => k _) (fun _ => ?_)
        rw [agLN (by omega) (by omega), Option.bind_some]
        exact k _
      · intro q2 a _
        show An (F_X12_waysOf_b32 (nI f) x2 x3 (F_X12_waysOf_b6 (nI f) x2 x3 q) (q2 + 1) c (nI m) a (nI W) y) _
        rw [F_X12_waysOf_b32, e13, if_pos (nI_le (Nat.le_refl W) (by omega)), nm_at]
        refine lp_up (fun q3 v (z : SM) => F_X12_waysOf_b71 (nI f) x2 x3 (F_X12_waysOf_b6 (nI f) x2 x3 q) q3 c (nI m) a v z) W (fun _ z => Fr [] [] wJ s z) _ ?_ ?_ fu 0 y (by omega) (by unfold fu; omega) hy
        · intro q3 w z hw hz hK3
          have z13 : mI z 13 = nI W := (hz.1 13 (by simp)).trans h13
          have hRz := h.fr hz (by simp)
          show An (F_X12_waysOf_b71 (nI f) x2 x3 (F_X12_waysOf_b6 (nI f) x2 x3 q) (q3 + 1) c (nI m) a (nI w) z) _
          rw [F_X12_waysOf_b71, z13, if_neg (nI_ge hw (by omega)), agN (by omega) (by omega), Option.bind_some]
          unfold F_X12_waysOf_b123
          have k160 : ∀ v : Int64, An (F_X12_waysOf_b160 (nI f) x2 x3 (F_X12_waysOf_b6 (nI f) x2 x3 q) (F_X12_waysOf_b71 (nI f) x2 x3 (F_X12_waysOf_b6 (nI f) x2 x3 q) q3) c (nI m) a (nI w) z (nI w) v) (fun q => Fr [] [] wJ s q.2) := by
            intro v
            unfold F_X12_waysOf_b160
            rw [asLN v (by omega) (by omega), Option.bind_some, nm_at, nm_at, nI_1]
            exact hK3 _ (hz.j 35 _ (by decide))
          have k124 : ∀ k0 : Int32, An (F_X12_waysOf_b124 (nI f) x2 x3 (F_X12_waysOf_b6 (nI f) x2 x3 q) (F_X12_waysOf_b71 (nI f) x2 x3 (F_X12_waysOf_b6 (nI f) x2 x3 q) q3) c (nI m) a (nI w) z k0) (fun q => Fr [] [] wJ s q.2) := by
            intro k0
            unfold F_X12_waysOf_b124
            rw [nm_at]
            refine An_if (fun _ => k160 _) (fun _ => An_if (fun _ => k160 _) (fun _ => ?_))
            rw [agLN (by omega) (by omega), Option.bind_some]
            exact k160 _
          refine An_if (fun _ => ?_) (fun _ => k124 _)
          rw [agN (by omega) (by omega), Option.bind_some]
          refine An_if (fun _ => ?_) (fun _ => k124 _)
          rcases hRz.met (i := m) (w := w) (by omega) (by omega) with e | e
          · rw [e, Option.bind_some, if_pos rfl]; exact k124 _
          · rw [e, Option.bind_some, if_neg (by decide)]; exact k124 _
        · intro q3 z hz
          have z13 : mI z 13 = nI W := (hz.1 13 (by simp)).trans h13
          show An (F_X12_waysOf_b71 (nI f) x2 x3 (F_X12_waysOf_b6 (nI f) x2 x3 q) (q3 + 1) c (nI m) a (nI W) z) _
          rw [F_X12_waysOf_b71, z13, if_pos (nI_le (Nat.le_refl W) (by omega)), nm_at]
          refine lp_up (fun q4 v (z : SM) => F_X12_waysOf_b170 (nI f) x2 x3 (F_X12_waysOf_b6 (nI f) x2 x3 q) q4 c (nI m) v z) W (fun _ z => Fr [] [] wJ s z) _ ?_ ?_ fu 0 z (by omega) (by unfold fu; omega) hz
          · intro q4 w z2 hw hz2 hK4
            have z13 : mI z2 13 = nI W := (hz2.1 13 (by simp)).trans h13
            show An (F_X12_waysOf_b170 (nI f) x2 x3 (F_X12_waysOf_b6 (nI f) x2 x3 q) (q4 + 1) c (nI m) (nI w) z2) _
            rw [F_X12_waysOf_b170, z13, if_neg (nI_ge hw (by omega)), agLN (by omega) (by omega), Option.bind_some, asLN _ (by omega) (by omega), Option.bind_some, nm_at, nm_at, nI_1]
            exact hK4 _ (hz2.j 34 _ (by decide))
          · intro q4 z2 hz2
            have z13 : mI z2 13 = nI W := (hz2.1 13 (by simp)).trans h13
            show An (F_X12_waysOf_b170 (nI f) x2 x3 (F_X12_waysOf_b6 (nI f) x2 x3 q) (q4 + 1) c (nI m) (nI W) z2) _
            rw [F_X12_waysOf_b170, z13, if_pos (nI_le (Nat.le_refl W) (by omega)), nm_at]
            exact k202 _ _ hz2
    · rw [if_neg g]; exact k202 _ _ hy
  · intro q ⟨c, y⟩ hy
    simp only [] at hy
    have e13 : mI y 13 = nI W := (hy.1 13 (by simp)).trans h13
    have e25 : mI y 25 = nI n := (hy.1 25 (by simp)).trans h25
    show An (F_X12_waysOf_b6 (nI f) x2 x3 (q + 1) c (nI n) y) _
    rw [F_X12_waysOf_b6, e25, if_pos (nI_le (Nat.le_refl n) (by omega)), nm_at, nm_at]
    refine lp_up (fun q2 v (a : Int64) => F_X12_waysOf_b214 (nI f) x2 x3 q2 c a v y) W (fun _ _ => True) _ ?_ ?_ fu 0 0 (by omega) (by unfold fu; omega) trivial
    · intro q2 w a hw _ hK2
      show An (F_X12_waysOf_b214 (nI f) x2 x3 (q2 + 1) c a (nI w) y) _
      rw [F_X12_waysOf_b214, e13, if_neg (nI_ge hw (by omega))]
      unfold F_X12_waysOf_b247
      refine An_if (fun _ => An_some hy) (fun _ => ?_)
      rw [agLN (by omega) (by omega), Option.bind_some, nm_at, nm_at, nI_1]
      exact hK2 _ trivial
    · intro q2 a _
      show An (F_X12_waysOf_b214 (nI f) x2 x3 (q2 + 1) c a (nI W) y) _
      rw [F_X12_waysOf_b214, e13, if_pos (nI_le (Nat.le_refl W) (by omega))]
      exact An_some hy
theorem waysAll_tot {W n f : Nat} {s : SM} (h : RH W n f s) : An (F_X12_waysAll s (nI f)) (fun q => Fr [] [] wJ s q.2) := by
  have h25 := h.2.2.1
  have h8 := h.2.2.2.1
  unfold F_X12_waysAll
  rw [nm_at, nm_at]
  refine lp_up (fun q v (x : Int64 × SM) => F_X12_waysAll_b5 (nI f) q x.1 v x.2) 8 (fun m x => Fr [] [] wJ s x.2) _ ?_ ?_ fu 0 (1, s) (by omega) (by unfold fu; omega) (Fr.rf s)
  · intro q l ⟨a, y⟩ hl hy hK
    simp only [] at hy
    have e25 : mI y 25 = nI n := (hy.1 25 (by simp)).trans h25
    have hR := h.fr hy (by simp)
    show An (F_X12_waysAll_b5 (nI f) (q + 1) a (nI l) y) _
    rw [F_X12_waysAll_b5, if_neg (show ¬ (8 : Int32) ≤ nI l from nI_ge (b := 8) hl (by omega)), nm_at, nm_at]
    refine lp_up (fun q2 v (c : Int32) => F_X12_waysAll_b18 (nI f) (F_X12_waysAll_b5 (nI f) q) q2 a (nI l) c v y) n (fun _ _ => True) _ ?_ ?_ fu 0 0 (by omega) (by unfold fu; omega) trivial
    · intro q2 m c hm _ hK2
      obtain ⟨l2, hl2, el⟩ := hR.let (i := m) (by omega)
      show An (F_X12_waysAll_b18 (nI f) (F_X12_waysAll_b5 (nI f) q) (q2 + 1) a (nI l) c (nI m) y) _
      rw [F_X12_waysAll_b18, e25, if_neg (nI_ge hm (by omega)), el, Option.bind_some]
      unfold F_X12_waysAll_b46
      refine An_if (fun _ => ?_) (fun _ => ?_) <;> rw [nm_at, nm_at, nI_1] <;> exact hK2 _ trivial
    · intro q2 c _
      show An (F_X12_waysAll_b18 (nI f) (F_X12_waysAll_b5 (nI f) q) (q2 + 1) a (nI l) c (nI n) y) _
      rw [F_X12_waysAll_b18, e25, if_pos (nI_le (Nat.le_refl n) (by omega)), nm_at, nm_at]
      have k93 : ∀ b z, Fr [] [] wJ s z → An (F_X12_waysAll_b93 (nI f) (F_X12_waysAll_b5 (nI f) q) a (nI l) c b z) (fun q => Fr [] [] wJ s q.2) := by
        intro b z hz
        unfold F_X12_waysAll_b93 F_X12_waysAll_b105
        refine An_if (fun _ => ?_) (fun _ => ?_) <;> rw [nm_at, nm_at, nI_1] <;> exact hK (_, z) hz
      refine lp_up (fun q3 v (x : Int64 × SM) => F_X12_waysAll_b61 (nI f) (F_X12_waysAll_b5 (nI f) q) q3 a (nI l) c x.1 v x.2) 26 (fun _ x => Fr [] [] wJ s x.2) _ ?_ ?_ fu 0 (0, y) (by omega) (by unfold fu; omega) hy
      · intro q3 m ⟨b, z⟩ hm hz hK3
        simp only [] at hz
        show An (F_X12_waysAll_b61 (nI f) (F_X12_waysAll_b5 (nI f) q) (q3 + 1) a (nI l) c b (nI m) z) _
        rw [F_X12_waysAll_b61, if_neg (show ¬ (26 : Int32) ≤ nI m from nI_ge (b := 26) hm (by omega))]
        refine An_if (fun _ => k93 b z hz) (fun _ => ?_)
        refine An_bind (waysOf_tot (h.fr hz (by simp)) _ _) fun q4 h4 => ?_
        rw [nm_at, nm_at, nI_1]
        exact hK3 (_, _) (hz.tr h4)
      · intro q3 ⟨b, z⟩ hz
        simp only [] at hz
        show An (F_X12_waysAll_b61 (nI f) (F_X12_waysAll_b5 (nI f) q) (q3 + 1) a (nI l) c b (nI 26) z) _
        rw [F_X12_waysAll_b61, if_pos (show (26 : Int32) ≤ nI 26 from nI_le (a := 26) (by omega) (by omega))]
        exact k93 b z hz
  · intro q ⟨a, y⟩ hy
    simp only [] at hy
    show An (F_X12_waysAll_b5 (nI f) (q + 1) a (nI 8) y) _
    rw [F_X12_waysAll_b5, if_pos (show (8 : Int32) ≤ nI 8 from nI_le (a := 8) (by omega) (by omega))]
    exact An_if (fun _ => An_some hy) (fun _ => An_some hy)
theorem burntM_lp {W n f : Nat} {s : SM} (h : RH W n f s) (x2 x3 : Int32) {x4 : Int32} (h4 : x4 = -1 ∨ ∃ i, i < n ∧ x4 = nI i) : An (F_X12_burnt_b45 (nI f) x2 x3 x4 fu (nI 0) s) (fun q => Fr [] [32] wJ s q.2) := by
  have h25 := h.2.2.1
  have h8 := h.2.2.2.1
  have h13 := h.1
  have h16 := h.2.1
  refine lp_up (fun q v z => F_X12_burnt_b45 (nI f) x2 x3 x4 q v z) n (fun _ z => Fr [] [32] wJ s z) _ ?_ ?_ fu 0 s (by omega) (by unfold fu; omega) (Fr.rf s)
  · intro q m y hm hy hK
    have e25 : mI y 25 = nI n := (hy.1 25 (by simp)).trans h25
    show An (F_X12_burnt_b45 (nI f) x2 x3 x4 (q + 1) (nI m) y) _
    rw [F_X12_burnt_b45, e25, if_neg (nI_ge hm (by omega))]
    have k94 : ∀ v : Int32, An (F_X12_burnt_b94 (nI f) x2 x3 x4 (F_X12_burnt_b45 (nI f) x2 x3 x4 q) (nI m) y (nI m) v) (fun q => Fr [] [32] wJ s q.2) := by
      intro v
      unfold F_X12_burnt_b94
      rw [asN v (by omega) (by omega), Option.bind_some, nm_at, nm_at, nI_1]
      exact hK _ (hy.a 32 _ (by decide))
    refine An_if (fun _ => k94 _) (fun _ => ?_)
    rw [show (1 : Int32) + 3 * nI m = nI (1 + 3 * m) from by rw [show (3 : Int32) * nI m = nI (3 * m) from nI_mul 3 m]; exact nI_add 1 _, agN (by omega) (by omega), Option.bind_some]
    exact k94 _
  · intro q y hy
    have e25 : mI y 25 = nI n := (hy.1 25 (by simp)).trans h25
    show An (F_X12_burnt_b45 (nI f) x2 x3 x4 (q + 1) (nI n) y) _
    rw [F_X12_burnt_b45, e25, if_pos (nI_le (Nat.le_refl n) (by omega))]
    rcases h4 with h4 | ⟨i, hi, h4⟩
    · rw [if_neg (show ¬ (0 : Int32) ≤ x4 from by rw [h4]; decide)]
      exact An_bind (waysAll_tot (h.fr hy (by simp))) fun q2 h2 => An_some (hy.tr (h2.wd (by simp) (by simp) (fun _ x => x)))
    · subst h4
      rw [if_pos (show (0 : Int32) ≤ nI i from nI_pos' (by omega)), agN (by omega) (by omega), Option.bind_some, nm_at, nm_at, nm_at]
      refine lp_up (fun q2 v (x : Int64 × SM) => F_X12_burnt_b127 (nI f) x2 x3 (nI i) q2 (mA y 32 i) x.1 v x.2) W (fun _ x => Fr [] [32] wJ s x.2) _ ?_ ?_ fu 0 (0, y) (by omega) (by unfold fu; omega) hy
      · intro q2 w ⟨a, z⟩ hw hz hK2
        simp only [] at hz
        have z13 : mI z 13 = nI W := (hz.1 13 (by simp)).trans h13
        show An (F_X12_burnt_b127 (nI f) x2 x3 (nI i) (q2 + 1) (mA y 32 i) a (nI w) z) _
        rw [F_X12_burnt_b127, z13, if_neg (nI_ge hw (by omega)), asN _ (by omega) (by omega), Option.bind_some, nm_at, agN (by omega) (by omega), Option.bind_some]
        have hz2 := hz.a 32 (upd (mA z 32) i (mA y 32 i &&& 1 <<< (nI w &&& 31))) (by decide)
        unfold F_X12_burnt_b176
        have k177 : ∀ z2, Fr [] [32] wJ s z2 → ∀ v : Int64, An (F_X12_burnt_b177 (nI f) x2 x3 (nI i) (F_X12_burnt_b127 (nI f) x2 x3 (nI i) q2) (mA y 32 i) (nI w) z2 a v) (fun q => Fr [] [32] wJ s q.2) := by
          intro z2 hz2 v
          unfold F_X12_burnt_b177
          rw [nm_at, nm_at, nI_1]
          exact hK2 (_, z2) hz2
        refine An_if (fun _ => k177 _ hz2 _) (fun _ => An_bind (waysAll_tot (h.fr hz2 (by simp))) fun q3 h3 => ?_)
        have hz3 := hz2.tr (h3.wd (by simp) (by simp) (fun _ x => x))
        exact An_if (fun _ => k177 _ hz3 _) (fun _ => k177 _ hz3 _)
      · intro q2 ⟨a, z⟩ hz
        simp only [] at hz
        have z13 : mI z 13 = nI W := (hz.1 13 (by simp)).trans h13
        show An (F_X12_burnt_b127 (nI f) x2 x3 (nI i) (q2 + 1) (mA y 32 i) a (nI W) z) _
        rw [F_X12_burnt_b127, z13, if_pos (nI_le (Nat.le_refl W) (by omega))]
        exact An_some hz
/-- burnt: both answer -/
theorem op_burnt0 {st : SX} {ms : SM} (h : Inv st ms) (a1 a2 a3 a4 : Int32) : ∃ (r r2 : Int64) (st2 : SX) (ms2 : SM), X_burnt st a1 a2 a3 a4 = some (r, st2) ∧ M_burnt ms a1 a2 a3 a4 = some (r2, ms2) ∧ Inv st2 ms2 := by
  obtain ⟨o, tx, ve, tr, me, gu, ch, row, i1, i2, t7, t10, t1, tp, ts, p7, p10, p1, pp, ps⟩ := st
  obtain ⟨W, F, P, S, T, ⟨hW, hF, hP, hS, hT⟩, hTX, hWR, hFR, hMR, hLP, hLS, hI1, hI2, hMo, hTr⟩ := (show IV o tx tr row i1 i2 t7 t10 t1 tp ts pp ps ms from h)
  have hP8 := hLP.1
  have hW16 := hWR.1
  have hF2 := hFR.1
  have hS6 := hLS.1
  have hs := hLP.2.2.1.1
  obtain ⟨x, x1, -⟩ := burntX_tot (o := o) (t7 := t7) (t1 := t1) (tp := tp) hWR.2.1 hW16 hs hP8 hFR.2.1 hF2 gu a1 a2 a3 a4
  have hM : An (F_X12_burnt ms a1 a2 a3 a4) (fun q => Fr scI scA scJ ms q.2) := by
    unfold F_X12_burnt F_X12_burnt_b29
    rw [nm_at, isForm_t (s := mIs ms 0 0) hF (by omega), Option.bind_some, if10]
    by_cases c1 : (0 ≤ a1.toInt ∧ a1.toInt < F) ∧ 0 ≤ a2.toInt ∧ a2.toInt < 2
    · rw [if_pos c1]
      obtain ⟨f, hf, rfl⟩ := Lb.of c1.1
      obtain ⟨d, hd, rfl⟩ := Lb.of (n := 2) c1.2
      have b33 : (a4 = -1 ∨ ∃ i, i < P ∧ a4 = nI i) → An (F_X12_burnt_b33 (nI f) (nI d) a3 a4 (mIs ms 0 0)) (fun q => Fr scI scA scJ ms q.2) := by
        intro h4
        unfold F_X12_burnt_b33
        refine lh_t W (s := mIs ms 0 0) hP hP8 (by omega) fun s' ⟨g1, g2, g3, g4⟩ => ?_
        have hR : RH W P f s' := ⟨(g1.1 13 (by decide)).trans hW, hW16, g2, hP8, t1, F, by rw [g1.2.1 10 (by decide)]; exact hFR, hf⟩
        rw [nm_at]
        refine An_mono (burntM_lp hR (nI d) a3 h4) fun q hq => ?_
        exact ((fr0 ms).tr (g1.wd (by decide) (by decide) (by decide))).tr (hq.wd (by decide) (by decide) (by decide))
      by_cases c2 : a4 = -1
      · rw [if_pos c2]; exact b33 (Or.inl c2)
      · rw [if_neg c2, isLine_t (s := mIs ms 0 0) hP (by omega), Option.bind_some, if10]
        by_cases c3 : 0 ≤ a4.toInt ∧ a4.toInt < P
        · rw [if_pos c3]
          obtain ⟨i, hi, e⟩ := Lb.of c3
          exact b33 (Or.inr ⟨i, hi, e⟩)
        · rw [if_neg c3]; exact An_some (fr0 ms)
    · rw [if_neg c1]; exact An_some (fr0 ms)
  obtain ⟨q, q1, q2⟩ := hM
  exact ⟨x.1, q.1, (o, tx, ve, tr, me, x.2, ch, row, i1, i2, t7, t10, t1, tp, ts, p7, p10, p1, pp, ps), q.2, by unfold X_burnt; rw [x1]; rfl, by unfold M_burnt; rw [q1]; rfl, IV.f0 h q2⟩
