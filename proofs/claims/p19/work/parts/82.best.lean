/-! ===== mended: the class's costs ===== -/
def BS (g : Nat → Nat) (m : Nat) (r : Int32) : Prop := (r = -1 ∧ mv g m = 1000) ∨ ∃ b, b < m ∧ r = nI b ∧ g b = mv g m ∧ mv g m < 1000 ∧ ∀ v, v < b → mv g m < g v
theorem ix3 (i w : Nat) : nI i * 16 + nI w = nI (16 * i + w) := by
  rw [show nI i * (16 : Int32) = nI (i * 16) from nI_mul i 16, nI_add, Nat.mul_comm]
theorem costAt_t {s : S3} {i w : Nat} (hi : i < 8) (hw : w < 16) : F_X3_costAt s (nI i) (nI w) = some (s3_costs s (16 * i + w)) := by
  unfold F_X3_costAt
  rw [ix3, at_total (by omega), atvN (by omega) (by omega), Option.bind_some]
theorem best_t {t10 : S10} {s : S3} {W d i : Nat} {sd : Nat → Int32} {g : Nat → Nat} {x4 : Int32} {rr : Nat → Bool} (hz : s10_size t10 = nI W) (h16 : W ≤ 16) (hd : d < 3) (hs : ∀ w, w < W → s10_sounds t10 (16 * d + w) = sd w) (hi : i < 8) (hg : ∀ v, v < W → s3_costs s (16 * i + v) = nI (g v) ∧ g v ≤ 1000) (hx : (x4 = -1 ∧ ∀ v, rr v = true) ∨ ∃ w, w < W ∧ x4 = nI w ∧ ∀ v, rr v = rhv sd w v) : An (F_X3_best t10 s (nI d) (nI i) x4) (BS (fun v => if rr v = true then g v else 1000) W) := by
  unfold F_X3_best
  rw [nm_at, nm_at, nm_at]
  refine lp_up (fun q v (x : Int32 × Int32) => F_X3_best_b11 t10 s (nI d) (nI i) x4 q x.1 x.2 v) W (fun m x => BS (fun v => if rr v = true then g v else 1000) m x.1 ∧ x.2 = nI (mv (fun v => if rr v = true then g v else 1000) m)) _ ?_ ?_ fu 0 (-1, 1000) (by omega) (by unfold fu; omega) ⟨Or.inl ⟨rfl, rfl⟩, rfl⟩
  · intro q m ⟨a, b⟩ hm ⟨ha, hb⟩ hK
    simp only [] at ha hb
    obtain ⟨e1, e2⟩ := hg m hm
    have hml := mv_le (fun v => if rr v = true then g v else 1000) m
    show An (F_X3_best_b11 t10 s (nI d) (nI i) x4 (q + 1) a b (nI m)) _
    rw [F_X3_best_b11]
    unfold F_X10_size
    rw [hz, Option.bind_some, if_neg (nI_ge hm (by omega)), costAt_t hi (by omega), Option.bind_some, e1, hb]
    have keep : mv (fun v => if rr v = true then g v else 1000) m ≤ (if rr m = true then g m else 1000) → An (F_X3_best_b62 t10 s (nI d) (nI i) x4 (F_X3_best_b11 t10 s (nI d) (nI i) x4 q) a (nI (mv (fun v => if rr v = true then g v else 1000) m)) (nI m)) (BS (fun v => if rr v = true then g v else 1000) W) := by
      intro h
      have em : mv (fun v => if rr v = true then g v else 1000) (m + 1) = mv (fun v => if rr v = true then g v else 1000) m := by
        rw [mv]
        exact if_neg (by show ¬ (if rr m = true then g m else 1000) < _; omega)
      unfold F_X3_best_b62
      rw [nm_at, nI_1]
      refine hK (a, nI (mv (fun v => if rr v = true then g v else 1000) m)) ⟨?_, congrArg nI em.symm⟩
      show BS _ (m + 1) a
      unfold BS
      rw [em]
      rcases ha with q | ⟨c, c1, c2⟩
      · exact Or.inl q
      · exact Or.inr ⟨c, by omega, c2⟩
    have take : (if rr m = true then g m else 1000) = g m → g m < mv (fun v => if rr v = true then g v else 1000) m → An (F_X3_best_b49 t10 s (nI d) (nI i) x4 (F_X3_best_b11 t10 s (nI d) (nI i) x4 q) (nI m)) (BS (fun v => if rr v = true then g v else 1000) W) := by
      intro hr h
      have em : mv (fun v => if rr v = true then g v else 1000) (m + 1) = g m := by
        rw [mv]
        show (if (if rr m = true then g m else 1000) < mv (fun v => if rr v = true then g v else 1000) m then (if rr m = true then g m else 1000) else _) = g m
        rw [hr, if_pos h]
      unfold F_X3_best_b49 F_X3_best_b62
      rw [costAt_t hi (by omega), Option.bind_some, nm_at, nm_at, nm_at, nI_1, e1]
      refine hK (nI m, nI (g m)) ⟨?_, congrArg nI em.symm⟩
      show BS _ (m + 1) (nI m)
      unfold BS
      rw [em]
      refine Or.inr ⟨m, by omega, rfl, hr, by omega, fun v hv => ?_⟩
      have := mv_at (g := fun v => if rr v = true then g v else 1000) hv
      exact Nat.lt_of_lt_of_le h this
    by_cases c : mv (fun v => if rr v = true then g v else 1000) m ≤ g m
    · rw [if_pos (nI_le c (by omega))]
      refine keep ?_
      split
      · exact c
      · exact hml
    · rw [if_neg (nI_ge (by omega) (by omega))]
      rcases hx with ⟨ex, er⟩ | ⟨w, hw, ex, er⟩
      · rw [if_pos (show x4 < 0 from by rw [ex]; decide)]
        exact take (if_pos (er m)) (by omega)
      · rw [if_neg (show ¬ x4 < 0 from by rw [ex]; exact nI_pos (by omega))]
        refine An_bindE (show F_X10_rhyme t10 (nI d) x4 (nI m) = some (if rhv sd w m = true then 1 else 0) from by rw [ex]; exact rhyme_ok hd h16 hs hw hm) ?_
        by_cases r : rhv sd w m = true
        · rw [if_pos r, if_neg (show ¬ (1 : Int32) = 0 from by decide)]
          exact take (if_pos (by rw [er]; exact r)) (by omega)
        · rw [if_neg r, if_pos rfl]
          refine keep ?_
          rw [if_neg (by rw [er]; exact r)]
          exact hml
  · intro q ⟨a, b⟩ ⟨ha, _⟩
    show An (F_X3_best_b11 t10 s (nI d) (nI i) x4 (q + 1) a b (nI W)) _
    rw [F_X3_best_b11]
    unfold F_X10_size
    rw [hz, Option.bind_some, if_pos (nI_le (Nat.le_refl W) (by omega))]
    exact An_some ha
/-- what the class reads when it mends -/
def GM (t7 : S7) (t10 : S10) (t1 : S1) (tp : S4) (W F P f d : Nat) (rf rm rw : Nat → Int32) (sd : Nat → Int32) (pw : Nat → Nat) (bf : Nat → Int32) : Prop :=
  MR t7 rm ∧ WR t10 W rw ∧ FR t1 F rf ∧ f < F ∧ s4_size tp = nI P ∧ P ≤ 8 ∧ d < 3 ∧ (∀ w, w < W → s10_sounds t10 (16 * d + w) = sd w) ∧ ∀ i, i < P → atv 8 (s4_words tp) (nI i) = nI (pw i) ∧ pw i < W ∧ atv 8 (s4_befores tp) (nI i) = bf i
theorem may_t {t7 : S7} {t10 : S10} {t1 : S1} {tp : S4} {W F P f d : Nat} {rf rm rw sd bf : Nat → Int32} {pw : Nat → Nat} (h : GM t7 t10 t1 tp W F P f d rf rm rw sd pw bf) {i w : Nat} (hi : i < P) (hw : w < W) : F_X3_mayBecome t7 t1 tp t10 (nI f) (nI i) (nI w) = some (if (decide (rw (4 * w + 2) = rw (4 * pw i + 2)) && okv rm rw (vL rf f i) w (bf i)) = true then 1 else 0) := by
  obtain ⟨hM, hW, hF, hf, hp, h8, hd, hs, hpp⟩ := h
  have h16 := hW.1
  obtain ⟨p1, p2, p3⟩ := hpp i hi
  have e1 := (hW.2.2 w hw).1.2.2.1
  have e2 := (hW.2.2 (pw i) p2).1.2.2.1
  have hL := (vL_lt hF hf i).1
  unfold F_X3_mayBecome
  rw [meaning_t, Option.bind_some, wordAt_t, Option.bind_some, p1, meaning_t, Option.bind_some, atvN (by omega) (by omega), atvN (by omega) (by omega), e1, e2]
  by_cases c : rw (4 * w + 2) = rw (4 * pw i + 2)
  · rw [if_pos c, let_eq hF hf (by omega), Option.bind_some, beforeAt_t, Option.bind_some, p3, fits_ok hM hW hL hw, Option.bind_some]
    by_cases k : okv rm rw (vL rf f i) w (bf i) = true
    · rw [if_pos k, if_neg (show ¬ (1 : Int32) = 0 from by decide), if_pos (by rw [k]; simp [c])]
    · rw [if_neg k, if_pos rfl, if_neg (by simp [k])]
  · rw [if_neg c, if_neg (by simp [c])]
theorem weigh3_t {t7 : S7} {t10 : S10} {t1 : S1} {tp : S4} {W F P f d : Nat} {rf rm rw sd bf : Nat → Int32} {pw : Nat → Nat} (h : GM t7 t10 t1 tp W F P f d rf rm rw sd pw bf) {i : Nat} (hi : i < P) {ok : Nat → Nat → Bool} (hok : ∀ w, w < W → ok i w = (decide (rw (4 * w + 2) = rw (4 * pw i + 2)) && okv rm rw (vL rf f i) w (bf i))) {s : S3} (hl : ∀ j v, i < j → j < P → v < W → s3_costs s (16 * j + v) = nI (ck (vL rf f) W P ok sd (cow pw) j v)) : An (F_X3_weigh t7 s t1 tp t10 (nI f) (nI d) (nI i)) (fun z => s3_row z = s3_row s ∧ (∀ j v, ¬ j = i → v < 16 → s3_costs z (16 * j + v) = s3_costs s (16 * j + v)) ∧ ∀ v, v < W → s3_costs z (16 * i + v) = nI (ck (vL rf f) W P ok sd (cow pw) i v)) := by
  have hG := h
  obtain ⟨hM, hW, hF, hf, hp, h8, hd, hs, hpp⟩ := h
  have h16 := hW.1
  have hz := hW.2.1
  obtain ⟨p1, p2, p3⟩ := hpp i hi
  unfold F_X3_weigh F_X4_size
  rw [hp, Option.bind_some]
  refine An_bind (behind_s hF hf hi (by omega)) fun bb hb => ?_
  rw [nm_at, nm_at]
  refine lp_up (fun q v (z : S3) => F_X3_weigh_b22 t7 t1 tp t10 (nI f) (nI d) (nI i) q bb v z) W (fun w z => s3_row z = s3_row s ∧ (∀ j v, ¬ j = i → v < 16 → s3_costs z (16 * j + v) = s3_costs s (16 * j + v)) ∧ ∀ v, v < w → s3_costs z (16 * i + v) = nI (ck (vL rf f) W P ok sd (cow pw) i v)) _ ?_ ?_ fu 0 s (by omega) (by unfold fu; omega) ⟨rfl, fun _ _ _ _ => rfl, fun v hv => by omega⟩
  · intro q w z hw ⟨h1, h2, h3⟩ hK
    show An (F_X3_weigh_b22 t7 t1 tp t10 (nI f) (nI d) (nI i) (q + 1) bb (nI w) z) _
    rw [F_X3_weigh_b22]
    unfold F_X10_size
    rw [hz, Option.bind_some, if_neg (nI_ge hw (by omega)), nm_at]
    have k129 : ∀ x : Nat, x < 10000 → (if 1000 < x then 1000 else x) = ck (vL rf f) W P ok sd (cow pw) i w → An (F_X3_weigh_b129 t7 t1 tp t10 (nI f) (nI d) (nI i) (F_X3_weigh_b22 t7 t1 tp t10 (nI f) (nI d) (nI i) q) bb (nI w) (nI x) z) (fun z => s3_row z = s3_row s ∧ (∀ j v, ¬ j = i → v < 16 → s3_costs z (16 * j + v) = s3_costs s (16 * j + v)) ∧ ∀ v, v < W → s3_costs z (16 * i + v) = nI (ck (vL rf f) W P ok sd (cow pw) i v)) := by
      intro x hx e
      have em : (if (1000 : Int32) < nI x then 1000 else nI x) = nI (ck (vL rf f) W P ok sd (cow pw) i w) := by
        rw [← e]
        by_cases c : 1000 < x
        · rw [if_pos c, if_pos (show (1000 : Int32) < nI x from nI_lt (a := 1000) c (by omega))]; rfl
        · rw [if_neg c, if_neg (show ¬ (1000 : Int32) < nI x from nI_nlt (a := 1000) (by omega) (by omega))]
      unfold F_X3_weigh_b129
      rw [em, ix3, set_total (by omega), Option.bind_some, nm_at, nI_1]
      refine hK _ ⟨h1, fun j v hj hv => ?_, fun v hv => ?_⟩
      · show setv 128 (s3_costs z) (nI (16 * i + w)) _ (16 * j + v) = _
        rw [setvN (by omega) (by omega), u_at, if_neg (by omega)]
        exact h2 j v hj hv
      · show setv 128 (s3_costs z) (nI (16 * i + w)) _ (16 * i + v) = _
        rw [setvN (by omega) (by omega), u_at]
        by_cases g : v = w
        · rw [if_pos (by omega), g]
        · rw [if_neg (by omega)]; exact h3 v (by omega)
    rw [may_t hG hi hw, Option.bind_some, ← hok w hw]
    by_cases c : ok i w = true
    · rw [if_pos c, if_neg (show ¬ (1 : Int32) = 0 from by decide)]
      have eck : ck (vL rf f) W P ok sd (cow pw) i w = (if 1000 < lc (vL rf f) (vL rf f i) W P ok sd (cow pw) (P - (i + 1)) w + cow pw i w then 1000 else lc (vL rf f) (vL rf f i) W P ok sd (cow pw) (P - (i + 1)) w + cow pw i w) := by unfold ck; rw [if_pos c]
      have k103 : ∀ x : Nat, x ≤ 1000 → x = lc (vL rf f) (vL rf f i) W P ok sd (cow pw) (P - (i + 1)) w → An (F_X3_weigh_b103 t7 t1 tp t10 (nI f) (nI d) (nI i) (F_X3_weigh_b22 t7 t1 tp t10 (nI f) (nI d) (nI i) q) bb (nI w) z (nI x)) (fun z => s3_row z = s3_row s ∧ (∀ j v, ¬ j = i → v < 16 → s3_costs z (16 * j + v) = s3_costs s (16 * j + v)) ∧ ∀ v, v < W → s3_costs z (16 * i + v) = nI (ck (vL rf f) W P ok sd (cow pw) i v)) := by
        intro x hx e
        unfold F_X3_weigh_b103 F_X3_weigh_b126
        rw [nm_at, wordAt_t, Option.bind_some, p1]
        by_cases g : w = pw i
        · rw [if_pos (show nI w = nI (pw i) from by rw [g]), nm_at, show nI x + 0 = nI (x + 0) from nI_add x 0]
          refine k129 _ (by omega) ?_
          rw [eck, e]
          unfold cow
          rw [if_pos g]
        · rw [if_neg (show ¬ nI w = nI (pw i) from by rw [nI_eq (by omega) (by omega)]; exact g), nm_at, show nI x + 1 = nI (x + 1) from nI_add x 1]
          refine k129 _ (by omega) ?_
          rw [eck, e]
          unfold cow
          rw [if_neg g]
      rcases lc_bh (W := W) (ok := ok) (sd := sd) (co := cow pw) hi hb w with ⟨e1, e2⟩ | ⟨j, j1, j2, e1, e2⟩
      · rw [if_neg (show ¬ (0 : Int32) ≤ bb from by rw [e1]; decide)]
        unfold F_X3_weigh_b73
        rw [nm_at, if_neg (show ¬ (0 : Int32) ≤ bb from by rw [e1]; decide)]
        exact k103 0 (by omega) e2.symm
      · have hc2 : ∀ v, v < W → s3_costs z (16 * j + v) = nI (ck (vL rf f) W P ok sd (cow pw) j v) := fun v hv => by rw [h2 j v (by omega) (by omega)]; exact hl j v j1 j2 hv
        rw [if_pos (show (0 : Int32) ≤ bb from by rw [e1]; exact nI_pos' (by omega))]
        refine An_bind (show An (F_X3_best t10 z (nI d) bb (nI w)) (BS (fun v => if rhv sd w v = true then ck (vL rf f) W P ok sd (cow pw) j v else 1000) W) from by rw [e1]; exact best_t (g := ck (vL rf f) W P ok sd (cow pw) j) (rr := rhv sd w) hz h16 hd hs (by omega) (fun v hv => ⟨hc2 v hv, ck_bd⟩) (Or.inr ⟨w, hw, rfl, fun _ => rfl⟩)) fun b hbs => ?_
        unfold F_X3_weigh_b73
        rw [nm_at, if_pos (show (0 : Int32) ≤ bb from by rw [e1]; exact nI_pos' (by omega))]
        rcases hbs with ⟨b1, b2⟩ | ⟨u, u1, b1, b2, b3, -⟩
        · rw [if_neg (show ¬ (0 : Int32) ≤ b from by rw [b1]; decide)]
          exact k103 1000 (by omega) (by rw [e2, b2])
        · have b2 : (if rhv sd w u = true then ck (vL rf f) W P ok sd (cow pw) j u else 1000) = mv (fun v => if rhv sd w v = true then ck (vL rf f) W P ok sd (cow pw) j v else 1000) W := b2
          have er : rhv sd w u = true := Decidable.byContradiction fun q => by rw [if_neg q] at b2; omega
          rw [if_pos er] at b2
          rw [if_pos (show (0 : Int32) ≤ b from by rw [b1]; exact nI_pos' (by omega)), b1, e1, costAt_t (by omega) (by omega), Option.bind_some, hc2 u u1]
          rw [← e1]
          exact k103 _ ck_bd (by rw [e2, b2])
    · rw [if_neg c, if_pos rfl]
      exact k129 1000 (by omega) (by unfold ck; rw [if_neg c, if_neg (by omega)])
  · intro q z hz2
    show An (F_X3_weigh_b22 t7 t1 tp t10 (nI f) (nI d) (nI i) (q + 1) bb (nI W) z) _
    rw [F_X3_weigh_b22]
    unfold F_X10_size
    rw [hz, Option.bind_some, if_pos (nI_le (Nat.le_refl W) (by omega))]
    exact An_some hz2
