/-! ===== burnt, shortest: the class always answers ===== -/
theorem waysAt_tot (s : S2) (x y : Int32) : Tot (F_X2_waysAt s x y) := by
  unfold F_X2_waysAt
  rw [nm_at]
  by_cases h : x * 16 + y < 0
  · rw [if_pos h]; exact Tot.some
  · rw [if_neg h]
    by_cases h2 : 128 ≤ x * 16 + y
    · rw [if_pos h2]; exact Tot.some
    · rw [if_neg h2, agetL_ok (vp_of (n := 128) (by omega) h h2), Option.bind_some]; exact Tot.some
theorem setWays_tot (s : S2) (x y : Int32) (v : Int64) : Tot (F_X2_setWays s x y v) := by
  unfold F_X2_setWays
  rw [nm_at]
  by_cases h : x * 16 + y < 0
  · rw [if_pos h]; exact Tot.some
  · rw [if_neg h]
    by_cases h2 : 128 ≤ x * 16 + y
    · rw [if_pos h2]; exact Tot.some
    · rw [if_neg h2, asetL_ok v (vp_of (n := 128) (by omega) h h2), Option.bind_some, nm_at]; exact Tot.some
theorem sum_tot {w : S10} {W : Nat} (hw : s10_size w = nI W) (h16 : W ≤ 16) (s : S2) (x2 x3 x4 : Int32) : Tot (F_X2_sum w s x2 x3 x4) := by
  unfold F_X2_sum
  refine Tot.nm (Tot.nm ?_)
  refine lp_up (fun q v (x : Int64) => F_X2_sum_b6 w s x2 x3 x4 q x v) W (fun m _ => True) _ ?_ ?_ fu 0 0 (by omega) (by unfold fu; omega) trivial
  · intro q m a hm _ hK
    show An (F_X2_sum_b6 w s x2 x3 x4 (q + 1) a (nI m)) _
    rw [F_X2_sum_b6]
    unfold F_X10_size F_X2_sum_b32 F_X2_sum_b44
    rw [hw, Option.bind_some, if_neg (nI_ge hm (by omega))]
    have k : ∀ a : Int64, An (nm (nI m + 1) fun v7_1 => F_X2_sum_b6 w s x2 x3 x4 q a v7_1) (fun _ => True) := by
      intro a
      rw [nm_at, nI_1]
      exact hK a trivial
    have k2 : An ((F_X2_waysAt s x3 (nI m)).bind fun q_2 => nm (a + q_2) fun v5_3 => nm (nI m + 1) fun v7_1 => F_X2_sum_b6 w s x2 x3 x4 q v5_3 v7_1) (fun _ => True) :=
      An_bind (waysAt_tot s x3 _) fun c _ => Tot.nm (k _)
    exact An_if (fun _ => k2) (fun _ => An_bind (rhyme_tot w x2 _ _) fun d _ => An_if (fun _ => k a) (fun _ => k2))
  · intro q a _
    show An (F_X2_sum_b6 w s x2 x3 x4 (q + 1) a (nI W)) _
    rw [F_X2_sum_b6]
    unfold F_X10_size
    rw [hw, Option.bind_some, if_pos (nI_le (Nat.le_refl W) (by omega))]
    exact An_some trivial
theorem weigh2_tot {t7 : S7} {t1 : S1} {tp : S4} {w : S10} {W P i : Nat} (hw : s10_size w = nI W) (h16 : W ≤ 16) (hp : s4_size tp = nI P) (h8 : P ≤ 8) (hi : i < P) (s : S2) (x2 x3 x5 : Int32) : Tot (F_X2_weigh t7 s t1 tp w x2 x3 (nI i) x5) := by
  unfold F_X2_weigh F_X4_size
  rw [hp, Option.bind_some]
  refine (behind_tot t1 x2 hi (by omega)).bind fun v6 => Tot.nm ((letter_tot t1 _ _).bind fun v7 => Tot.nm (Tot.nm ?_))
  refine lp_up (fun q v (z : S2) => F_X2_weigh_b34 t7 t1 tp w x2 x3 (nI i) x5 q v6 v7 v z) W (fun m _ => True) _ ?_ ?_ fu 0 s (by omega) (by unfold fu; omega) trivial
  · intro q m z hm _ hK
    show An (F_X2_weigh_b34 t7 t1 tp w x2 x3 (nI i) x5 (q + 1) v6 v7 (nI m) z) _
    rw [F_X2_weigh_b34]
    unfold F_X10_size
    rw [hw, Option.bind_some, if_neg (nI_ge hm (by omega)), nm_at]
    have k112 : ∀ v9 : Int64, An (F_X2_weigh_b112 t7 t1 tp w x2 x3 (nI i) x5 (F_X2_weigh_b34 t7 t1 tp w x2 x3 (nI i) x5 q) v6 v7 (nI m) v9 z) (fun _ => True) := by
      intro v9
      unfold F_X2_weigh_b112
      refine An_bind (setWays_tot z _ _ _) fun y _ => ?_
      rw [nm_at, nI_1]
      exact hK y trivial
    have k110 : ∀ k0 : Int64, An (F_X2_weigh_b110 t7 t1 tp w x2 x3 (nI i) x5 (F_X2_weigh_b34 t7 t1 tp w x2 x3 (nI i) x5 q) v6 v7 (nI m) z k0) (fun _ => True) := by
      intro k0
      unfold F_X2_weigh_b110
      exact Tot.nm (k112 _)
    have k68 : An (F_X2_weigh_b68 t7 t1 tp w x2 x3 (nI i) x5 (F_X2_weigh_b34 t7 t1 tp w x2 x3 (nI i) x5 q) v6 v7 (nI m) 0 z) (fun _ => True) := by
      unfold F_X2_weigh_b68
      exact (before_tot tp _).bind fun _ => (fits_tot t7 w _ _ _).bind fun _ => Tot.ite (k112 _) (Tot.ite ((sum_tot hw h16 z x3 _ _).bind fun _ => k110 _) (k110 _))
    exact Tot.ite ((word_tot tp _).bind fun _ => Tot.ite k68 (k112 _)) k68
  · intro q z _
    show An (F_X2_weigh_b34 t7 t1 tp w x2 x3 (nI i) x5 (q + 1) v6 v7 (nI W) z) _
    rw [F_X2_weigh_b34]
    unfold F_X10_size
    rw [hw, Option.bind_some, if_pos (nI_le (Nat.le_refl W) (by omega))]
    exact An_some trivial
theorem waysX_tot {t7 : S7} {t1 : S1} {tp : S4} {w : S10} {W P : Nat} (hw : s10_size w = nI W) (h16 : W ≤ 16) (hp : s4_size tp = nI P) (h8 : P ≤ 8) (s : S2) (x2 x3 x4 : Int32) : Tot (F_X2_waysOf t7 s t1 tp w x2 x3 x4) := by
  unfold F_X2_waysOf F_X4_size
  rw [hp, Option.bind_some]
  refine Tot.nm ((pairs_tot t1 x2 (by omega)).bind fun b => Tot.ite Tot.some (Tot.nm (Tot.nm ?_)))
  refine lp_dn (fun q v (x : Int64 × S2) => F_X2_waysOf_b33 t7 t1 tp w x2 x3 x4 q x.1 v x.2) (fun m _ => m ≤ P) _ ?_ ?_ fu P (1, s) (by unfold fu; omega) (Nat.le_refl P)
  · intro q m ⟨a, z⟩ hm hK
    show An (F_X2_waysOf_b33 t7 t1 tp w x2 x3 x4 (q + 1) a (nI m) z) _
    rw [F_X2_waysOf_b33, if_neg (nI_pos (by omega))]
    have k92 : ∀ (a : Int64) (y : S2), An (F_X2_waysOf_b92 t7 t1 tp w x2 x3 x4 (F_X2_waysOf_b33 t7 t1 tp w x2 x3 x4 q) a (nI m) y) (fun _ => True) := by
      intro a y
      unfold F_X2_waysOf_b92
      rw [nm_at]
      exact hK (a, y) (by omega)
    have k59 : ∀ k5 : Int32, An (F_X2_waysOf_b59 t7 t1 tp w x2 x3 x4 (F_X2_waysOf_b33 t7 t1 tp w x2 x3 x4 q) a (nI m) z x2 x3 (nI m) k5) (fun _ => True) := by
      intro k5
      unfold F_X2_waysOf_b59
      exact (weigh2_tot hw h16 hp h8 (by omega) z _ _ _).bind fun _ => An_bind (ahead_tot t1 x2 (by omega)) fun _ _ => Tot.ite (k92 _ _) ((sum_tot hw h16 _ _ _ _).bind fun _ => Tot.nm (k92 _ _))
    exact Tot.ite (k59 _) (k59 _)
  · intro q ⟨a, z⟩ _
    show An (F_X2_waysOf_b33 t7 t1 tp w x2 x3 x4 (q + 1) a (nI 0 - 1) z) _
    rw [F_X2_waysOf_b33, if_pos (show nI 0 - 1 < 0 from by decide)]
    exact An_some trivial
theorem reached_tot {w : S10} {W : Nat} (hw : s10_size w = nI W) (h16 : W ≤ 16) (s : S2) (x2 x3 x4 : Int32) : Tot (F_X2_isReached w s x2 x3 x4) := by
  unfold F_X2_isReached
  refine (at_tot (by omega) _ _).bind fun v5 => Tot.nm (Tot.nm ?_)
  refine lp_up (fun q v (_ : Unit) => F_X2_isReached_b13 w s x2 x3 x4 q v5 v) W (fun m _ => True) _ ?_ ?_ fu 0 () (by omega) (by unfold fu; omega) trivial
  · intro q m _ hm _ hK
    show An (F_X2_isReached_b13 w s x2 x3 x4 (q + 1) v5 (nI m)) _
    rw [F_X2_isReached_b13]
    unfold F_X10_size F_X2_isReached_b46
    rw [hw, Option.bind_some, if_neg (nI_ge hm (by omega))]
    have k : An (nm (nI m + 1) fun v6_1 => F_X2_isReached_b13 w s x2 x3 x4 q v5 v6_1) (fun _ => True) := by
      rw [nm_at, nI_1]
      exact hK () trivial
    exact Tot.ite k ((rhyme_tot w _ _ _).bind fun _ => Tot.ite k Tot.some)
  · intro q _ _
    show An (F_X2_isReached_b13 w s x2 x3 x4 (q + 1) v5 (nI W)) _
    rw [F_X2_isReached_b13]
    unfold F_X10_size
    rw [hw, Option.bind_some, if_pos (nI_le (Nat.le_refl W) (by omega))]
    exact An_some trivial
theorem bitc_tot (x : Int32) : Tot (F_J6_bitCount_0f7a4 x) := by
  unfold F_J6_bitCount_0f7a4
  exact Tot.nm (Tot.nm (Tot.nm (Tot.nm (Tot.nm Tot.some))))
theorem wordsOf_tot {t7 : S7} {t1 : S1} {w : S10} {W i : Nat} (hw : s10_size w = nI W) (h16 : W ≤ 16) (hi : i < 8) (s : S2) (x2 x3 : Int32) : Tot (F_X2_wordsOf t7 s t1 w x2 x3 (nI i)) := by
  unfold F_X2_wordsOf
  refine Tot.nm ?_
  refine lp_up (fun q v (z : S2) => F_X2_wordsOf_b3 t7 t1 w x2 x3 (nI i) q v z) (i + 1) (fun m _ => True) _ ?_ ?_ fu 0 s (by omega) (by unfold fu; omega) trivial
  · intro q m z hm _ hK
    show An (F_X2_wordsOf_b3 t7 t1 w x2 x3 (nI i) (q + 1) (nI m) z) _
    rw [F_X2_wordsOf_b3, if_neg (nI_nlt (by omega) (by omega))]
    refine An_bind (ahead_tot t1 x2 (by omega)) fun v6 _ => Tot.nm (Tot.nm (Tot.nm ?_))
    refine lp_up (fun q2 v (x : Int32 × S2) => F_X2_wordsOf_b28 t7 t1 w x2 x3 (nI i) (F_X2_wordsOf_b3 t7 t1 w x2 x3 (nI i) q) q2 (nI m) v6 x.1 v x.2) W (fun m _ => True) _ ?_ ?_ fu 0 (0, z) (by omega) (by unfold fu; omega) trivial
    · intro q2 n ⟨a, y⟩ hn _ hK2
      show An (F_X2_wordsOf_b28 t7 t1 w x2 x3 (nI i) (F_X2_wordsOf_b3 t7 t1 w x2 x3 (nI i) q) (q2 + 1) (nI m) v6 a (nI n) y) _
      rw [F_X2_wordsOf_b28]
      unfold F_X10_size F_X2_wordsOf_b74 F_X2_wordsOf_b83
      rw [hw, Option.bind_some, if_neg (nI_ge hn (by omega))]
      have k : ∀ a : Int32, An (nm (nI n + 1) fun v8_1 => F_X2_wordsOf_b28 t7 t1 w x2 x3 (nI i) (F_X2_wordsOf_b3 t7 t1 w x2 x3 (nI i) q) q2 (nI m) v6 a v8_1 y) (fun _ => True) := by
        intro a
        rw [nm_at, nI_1]
        exact hK2 (a, y) trivial
      exact (waysAt_tot y _ _).bind fun _ => Tot.ite (k a) (Tot.ite (Tot.nm (k _)) ((reached_tot hw h16 y _ _ _).bind fun _ => Tot.ite (k a) (Tot.nm (k _))))
    · intro q2 ⟨a, y⟩ _
      show An (F_X2_wordsOf_b28 t7 t1 w x2 x3 (nI i) (F_X2_wordsOf_b3 t7 t1 w x2 x3 (nI i) q) (q2 + 1) (nI m) v6 a (nI W) y) _
      rw [F_X2_wordsOf_b28]
      unfold F_X10_size
      rw [hw, Option.bind_some, if_pos (nI_le (Nat.le_refl W) (by omega))]
      refine An_bind (set_tot (by omega) _ _ _) fun g _ => ?_
      rw [nm_at, nI_1]
      exact hK _ trivial
  · intro q z _
    show An (F_X2_wordsOf_b3 t7 t1 w x2 x3 (nI i) (q + 1) (nI (i + 1)) z) _
    rw [F_X2_wordsOf_b3, if_pos (nI_lt (by omega) (by omega))]
    exact (at_tot (by omega) _ _).bind fun _ => (bitc_tot _).bind fun _ => Tot.some
theorem burntX_tot {o : S11} {t7 : S7} {t1 : S1} {tp : S4} {w : S10} {W P F : Nat} (hw : s10_size w = nI W) (h16 : W ≤ 16) (hp : s4_size tp = nI P) (h8 : P ≤ 8) (hF : s1_size t1 = nI F) (h2 : F ≤ 2) (s : S2) (x1 x2 x3 x4 : Int32) : Tot (F_X11_burnt o s t7 t1 tp w x1 x2 x3 x4) := by
  unfold F_X11_burnt F_X11_burnt_b18
  refine (noView_tot o t7 hF h2 _ _).bind fun _ => Tot.ite ?_ Tot.some
  unfold F_X11_isNoLineNorAll
  by_cases c : x4 = -1
  · rw [if_pos c, Option.bind_some, if_pos rfl]
    refine (waysX_tot hw h16 hp h8 s _ _ _).bind fun a => Tot.nm ?_
    rw [if_neg (show ¬ (0 : Int32) ≤ x4 from by rw [c]; decide)]
    exact Tot.some
  · rw [if_neg c, has_t tp (by omega) hp, Option.bind_some]
    by_cases d : 0 ≤ x4.toInt ∧ x4.toInt < P
    · obtain ⟨i, hi, rfl⟩ := Lb.of d
      rw [if_pos d, if_neg (show ¬ (1 : Int32) = 0 from by decide), Option.bind_some, if_pos rfl]
      exact (waysX_tot hw h16 hp h8 s _ _ _).bind fun a => Tot.nm (Tot.ite (Tot.ite Tot.some ((wordsOf_tot hw h16 (by omega) _ _ _).bind fun _ => Tot.some)) Tot.some)
    · rw [if_neg d, if_pos rfl, Option.bind_some, if_neg (show ¬ (1 : Int32) = 0 from by decide)]
      exact Tot.some
/-! shortest -/
def RS (s : S4) : Prop := s4_most s = nI 6 ∧ ∃ k, k ≤ 6 ∧ s4_size s = nI k
theorem cut_t {s : S4} {k d : Nat} (hs : s4_size s = nI k) (hk : k ≤ 6) (hd : d ≤ 6) : ∃ s', F_X4_cut s (nI d) = some s' ∧ s4_most s' = s4_most s ∧ s4_size s' = nI (if d < k then d else k) := by
  refine ⟨u4_size s (if 0 < (if nI d < s4_size s then nI d else s4_size s) then (if nI d < s4_size s then nI d else s4_size s) else 0), by unfold F_X4_cut; rw [nm_at], rfl, ?_⟩
  show (if 0 < (if nI d < s4_size s then nI d else s4_size s) then (if nI d < s4_size s then nI d else s4_size s) else 0) = _
  rw [hs]
  by_cases c : d < k
  · rw [if_pos (nI_lt c (by omega)), if_pos c]
    by_cases z : d = 0
    · rw [if_neg (show ¬ (0 : Int32) < nI d from nI_nlt (a := 0) (by omega) (by omega)), z]; rfl
    · rw [if_pos (show (0 : Int32) < nI d from nI_lt (a := 0) (by omega) (by omega))]
  · rw [if_neg (nI_nlt (by omega) (by omega)), if_neg c]
    by_cases z : k = 0
    · rw [if_neg (show ¬ (0 : Int32) < nI k from nI_nlt (a := 0) (by omega) (by omega)), z]; rfl
    · rw [if_pos (show (0 : Int32) < nI k from nI_lt (a := 0) (by omega) (by omega))]
theorem insert_rs {s : S4} (h : RS s) {d : Nat} (hd : d ≤ 6) (a b c : Int32) : An (F_X4_insert s (nI d) a b c) RS := by
  obtain ⟨hm, k, hk, hs⟩ := h
  by_cases c1 : k < 6 ∧ d ≤ k
  · obtain ⟨s', e1, e2, e3⟩ := ins_tM a b c c1.2 c1.1 (by omega) hm (p := ln s) ⟨hs, fun _ _ => rfl⟩
    exact ⟨s', e1, e3, k + 1, by omega, e2.1⟩
  · unfold F_X4_insert F_X4_isFull
    rw [hs, hm]
    by_cases c2 : k < 6
    · rw [if_pos (nI_lt c2 (by omega)), Option.bind_some, if_pos rfl, if_neg (nI_pos (by omega)), if_neg (nI_ge (by omega) (by omega))]
      exact An_some ⟨hm, k, hk, hs⟩
    · rw [if_neg (nI_nlt (by omega) (by omega)), Option.bind_some, if_neg (show ¬ (1 : Int32) = 0 from by decide)]
      exact An_some ⟨hm, k, hk, hs⟩
theorem lay_rs {row ts : S4} (h : RS row) {d : Nat} (hd : d < 6) (c : S0) (t7 : S7) (t1 : S1) (w : S10) (x2 : Int32) : An (F_X0_lay c row t7 t1 ts w (nI d) x2) (fun q => RS q.2.2) := by
  obtain ⟨hm, k, hk, hs⟩ := h
  obtain ⟨s1, a1, a2, a3⟩ := cut_t hs hk (d := d) (by omega)
  unfold F_X0_lay
  rw [a1, Option.bind_some]
  have hs1 : RS s1 := ⟨a2.trans hm, _, by split <;> omega, a3⟩
  refine An_bind (word_tot ts _) fun _ _ => An_bind (thing_tot ts _) fun _ _ => An_bind (before_tot ts _) fun _ _ => An_bind (insert_rs hs1 (by omega) _ _ _) fun s2 hs2 => An_bind (set_tot (by omega) _ _ _) fun _ _ => An_bind (letter_tot t1 _ _) fun _ _ => An_bind (word_tot s2 _) fun _ _ => An_bind (before_tot s2 _) fun _ _ => An_bind (fits_tot t7 w _ _ _) fun _ _ => An_if (fun _ => An_some hs2) (fun _ => An_bind (ahead_tot t1 _ (by omega)) fun _ _ => ?_)
  rw [nm_at]
  exact An_if (fun _ => An_some hs2) (fun _ => An_bind (word_tot s2 _) fun _ _ => An_bind (word_tot s2 _) fun _ _ => An_bind (rhyme_tot w _ _ _) fun _ _ => An_if (fun _ => An_some hs2) (fun _ => An_some hs2))
theorem hasT_tot {row : S4} (h : RS row) (c : S0) : An (F_X0_hasThings c row) (fun r => r = 0 ∨ r = 1) := by
  obtain ⟨hm, k, hk, hs⟩ := h
  unfold F_X0_hasThings
  rw [nm_at, nm_at]
  refine lp_up (fun q v (x : Int32) => F_X0_hasThings_b4 c row q x v) k (fun m _ => True) _ ?_ ?_ fu 0 0 (by omega) (by unfold fu; omega) trivial
  · intro q m x hm2 _ hK
    show An (F_X0_hasThings_b4 c row (q + 1) x (nI m)) _
    rw [F_X0_hasThings_b4]
    unfold F_X4_size
    rw [hs, Option.bind_some, if_neg (nI_ge hm2 (by omega))]
    refine An_bind (thing_tot row _) fun _ _ => ?_
    rw [nm_at, nm_at, nI_1]
    exact hK _ trivial
  · intro q x _
    show An (F_X0_hasThings_b4 c row (q + 1) x (nI k)) _
    rw [F_X0_hasThings_b4]
    unfold F_X4_size
    rw [hs, Option.bind_some, if_pos (nI_le (Nat.le_refl k) (by omega))]
    exact An_if (fun _ => An_some (Or.inr rfl)) (fun _ => An_some (Or.inl rfl))
theorem ext_tot {t7 : S7} {t1 : S1} {ts : S4} {w : S10} {S : Nat} (hS : s4_size ts = nI S) (h6 : S ≤ 6) {n : Nat} (hn : n ≤ 6) : ∀ k d c row x3, d ≤ n → n - d < k → RS row → An (F_ext t7 t1 ts w k c row (nI n) (nI d) x3) (fun q => RS q.2.2) := by
  intro k
  induction k with
  | zero => intro d c row x3 _ h; omega
  | succ k ih =>
    intro d c row x3 hd hk hr
    rw [F_ext]
    unfold F_X0_extend F_X0_extend_b11
    have b11 : An ((F_X0_hasThings c row).bind fun q_1 => (zb q_1).bind fun z_2 => some (q_1, c, row)) (fun q => RS q.2.2) := by
      refine An_bind (hasT_tot hr c) fun r hr2 => ?_
      rw [show zb r = some r from by rcases hr2 with e | e <;> rw [e] <;> rfl, Option.bind_some]
      exact An_some hr
    by_cases g : d = n
    · rw [if_pos (nI_le (by omega) (by omega))]; exact b11
    · rw [if_neg (nI_ge (by omega) (by omega)), if_pos (show nI d < 6 from nI_lt (b := 6) (by omega) (by omega)), nm_at]
      refine lp_up (fun q v (x : S0 × S4) => F_X0_extend_b19 t7 t1 ts w (nI n) (nI d) x3 (F_ext t7 t1 ts w k) q v x.1 x.2) S (fun m x => RS x.2) _ ?_ ?_ fu 0 (c, row) (by omega) (by unfold fu; omega) hr
      · intro q m ⟨c2, row2⟩ hm hr2 hK
        simp only [] at hr2
        show An (F_X0_extend_b19 t7 t1 ts w (nI n) (nI d) x3 (F_ext t7 t1 ts w k) (q + 1) (nI m) c2 row2) _
        rw [F_X0_extend_b19]
        unfold F_X0_stockSize F_X4_size
        rw [hS, Option.bind_some, Option.bind_some, if_neg (nI_ge hm (by omega))]
        have k66 : ∀ c3 row3, RS row3 → An (F_X0_extend_b66 t7 t1 ts w (nI n) (nI d) x3 (F_ext t7 t1 ts w k) (F_X0_extend_b19 t7 t1 ts w (nI n) (nI d) x3 (F_ext t7 t1 ts w k) q) (nI m) c3 row3) (fun q => RS q.2.2) := by
          intro c3 row3 h3
          unfold F_X0_extend_b66
          rw [nm_at, nI_1]
          exact hK (c3, row3) h3
        refine An_if (fun _ => An_bind (lay_rs hr2 (by omega) c2 t7 t1 w _) fun q5 h5 => An_if (fun _ => k66 _ _ h5) (fun _ => ?_)) (fun _ => k66 _ _ hr2)
        rw [nI_1]
        exact An_bind (ih (d + 1) _ _ _ (by omega) (by omega) h5) fun q6 h7 => An_if (fun _ => k66 _ _ h7) (fun _ => An_some h7)
      · intro q ⟨c2, row2⟩ hr2
        simp only [] at hr2
        show An (F_X0_extend_b19 t7 t1 ts w (nI n) (nI d) x3 (F_ext t7 t1 ts w k) (q + 1) (nI S) c2 row2) _
        rw [F_X0_extend_b19]
        unfold F_X0_stockSize F_X4_size
        rw [hS, Option.bind_some, Option.bind_some, if_pos (nI_le (Nat.le_refl S) (by omega))]
        exact An_some hr2
theorem find_tot {t7 : S7} {t1 : S1} {ts : S4} {w : S10} {S : Nat} (hS : s4_size ts = nI S) (h6 : S ≤ 6) (c : S0) {row : S4} (hr : s4_most row = nI 6) (x2 x3 x4 : Int32) : An (F_X0_find t7 c t1 ts w row x2 x3 x4) (fun q => s4_most q.2.2 = nI 6) := by
  unfold F_X0_find
  simp only [nm_at]
  have main : ∀ f n c row, n ≤ S → S - n < f → s4_most row = nI 6 → An (F_X0_find_b24 t7 t1 ts w x2 x3 x4 f (nI (n + 1)) c row) (fun q => s4_most q.2.2 = nI 6) := by
    intro f
    induction f with
    | zero => intro n c row _ h; omega
    | succ f ih =>
      intro n c row hn hf hr
      rw [F_X0_find_b24]
      unfold F_X4_size F_X4_wipe
      rw [hS, Option.bind_some]
      by_cases g : n = S
      · rw [if_pos (nI_lt (by omega) (by omega))]
        exact An_some hr
      · rw [if_neg (nI_nlt (by omega) (by omega)), nm_at, Option.bind_some]
        have hr2 : RS (u4_size row 0) := ⟨hr, 0, by omega, rfl⟩
        have k70 : ∀ c3 row3, s4_most row3 = nI 6 → An (F_X0_find_b70 t7 t1 ts w x2 x3 x4 (F_X0_find_b24 t7 t1 ts w x2 x3 x4 f) (nI (n + 1)) c3 row3) (fun q => s4_most q.2.2 = nI 6) := by
          intro c3 row3 h3
          unfold F_X0_find_b70
          rw [nm_at, nI_1]
          exact ih (n + 1) c3 row3 (by omega) (by omega) h3
        refine An_bind (pairs_tot t1 x2 (by omega)) fun b _ => An_if (fun _ => k70 _ _ hr2.1) (fun _ => ?_)
        unfold F_X0_extT
        exact An_bind (ext_tot hS h6 (by omega) 8 0 c _ 0 (by omega) (by omega) hr2) fun q5 h5 => An_if (fun _ => k70 _ _ h5.1) (fun _ => An_some h5.1)
  exact main fu 0 _ row (by omega) (by unfold fu; omega) hr
theorem shortX_tot {o : S11} {t7 : S7} {t1 : S1} {ts : S4} {w : S10} {S F : Nat} (hS : s4_size ts = nI S) (h6 : S ≤ 6) (hF : s1_size t1 = nI F) (h2 : F ≤ 2) (c : S0) {row : S4} (hr : s4_most row = nI 6) (x1 x2 x3 x4 : Int32) : An (F_X11_shortest_0 o c t7 row t1 ts w x1 x2 x3 x4) (fun q => s4_most q.2.2 = nI 6) ∨ (F_X11_shortest_0 o c t7 row t1 ts w x1 x2 x3 x4 = none ∧ An (F_X11_shortest_1 o c t7 row t1 ts w x1 x2 x3 x4) (fun q => s4_most q.2.2 = nI 6)) := by
  unfold F_X11_shortest_0 F_X11_shortest_1
  rw [noView_t o t7 hF (by omega)]
  simp only [Option.bind_some]
  by_cases c1 : (0 ≤ x1.toInt ∧ x1.toInt < F) ∧ 0 ≤ x2.toInt ∧ x2.toInt < 2
  · rw [if_pos c1, if_pos (show (0 : Int32) = 0 from rfl), if_pos (show (0 : Int32) = 0 from rfl)]
    by_cases c2 : x3 < 0
    · rw [if_pos c2]; exact Or.inl (An_some hr)
    · rw [if_neg c2, if_neg c2]
      by_cases c3 : 1023 < x3
      · rw [if_pos c3]; exact Or.inl (An_some hr)
      · rw [if_neg c3, if_neg c3]
        by_cases c4 : -1 ≤ x4
        · rw [if_pos c4, if_pos c4]
          obtain ⟨q, q1, q2⟩ := find_tot (t7 := t7) (t1 := t1) (w := w) hS h6 c hr x1 x2 x3
          rw [q1]
          simp only [Option.bind_some, nm_at]
          refine Or.inr ⟨?_, ?_⟩
          · by_cases d1 : q.1 < 0
            · rw [if_pos d1]
            · rw [if_neg d1]
              by_cases d2 : 0 ≤ x4
              · rw [if_pos d2]
                by_cases d3 : q.1 ≤ x4
                · rw [if_pos d3]
                · rw [if_neg d3]
                  unfold F_X0_pickAt
                  rw [at_total (by omega)]; rfl
              · rw [if_neg d2]
          · refine An_if (fun _ => An_some q2) (fun _ => An_if (fun _ => An_if (fun _ => An_some q2) (fun _ => ?_)) (fun _ => An_some q2))
            unfold F_X0_pickAt
            rw [at_total (by omega)]
            exact An_some q2
        · rw [if_neg c4]; exact Or.inl (An_some hr)
  · rw [if_neg c1, if_neg (show ¬ (1 : Int32) = 0 from by decide)]
    exact Or.inl (An_some hr)
