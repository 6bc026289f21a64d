/-! ===== the class always answers: mended, burnt, shortest ===== -/
def Tot {A : Type} (o : Option A) : Prop := An o (fun _ => True)
theorem Tot.some {A : Type} {a : A} : Tot (some a) := ⟨a, rfl, trivial⟩
theorem Tot.bind {A B : Type} {o : Option A} {k : A → Option B} (h : Tot o) (h2 : ∀ a, Tot (k a)) : Tot (o.bind k) := An_bind h fun a _ => h2 a
theorem Tot.ite {A : Type} {c : Prop} [Decidable c] {x y : Option A} (h1 : Tot x) (h2 : Tot y) : Tot (if c then x else y) := An_if (fun _ => h1) (fun _ => h2)
theorem Tot.nm {A B : Type} {x : A} {k : A → Option B} (h : Tot (k x)) : Tot (nm x k) := by rw [nm_at]; exact h
theorem Tot.of {A : Type} {o : Option A} {a : A} (h : o = Option.some a) : Tot o := ⟨a, h, trivial⟩
theorem at_tot {n : Nat} (hn : n < 1000) (f : Nat → Int32) (x : Int32) : Tot (F_X6_at n f x) := Tot.of (at_total (by omega) f x)
theorem set_tot {n : Nat} (hn : n < 1000) (f : Nat → Int32) (x v : Int32) : Tot (F_X6_set n f x v) := Tot.of (set_total (by omega) f x v)
theorem letter_tot (s : S1) (x y : Int32) : Tot (F_X1_letter s x y) := by
  unfold F_X1_letter
  refine (at_tot (by omega) _ _).bind fun q => Tot.nm ?_
  by_cases h : q ≤ 0
  · rw [if_pos h]; exact Tot.some
  · rw [if_neg h]
    refine Tot.ite Tot.some (Tot.bind ?_ fun m => (at_tot (by omega) _ _).bind fun v => Tot.some)
    unfold orem
    rw [if_neg (fun e : q = 0 => h (by rw [e]; decide))]
    exact Tot.some
theorem ahead_tot (s : S1) (x : Int32) {i : Nat} (hi : i < 1000) : An (F_X1_ahead s x (nI i)) (fun r => r = nM 1 ∨ ∃ j, j < i ∧ r = nI j) := by
  unfold F_X1_ahead
  rw [nm_at]
  refine lp_dn (fun q v (_ : Unit) => F_X1_ahead_b4 s x (nI i) q v) (fun m _ => m ≤ i) _ ?_ ?_ fu i () (by unfold fu; omega) (Nat.le_refl i)
  · intro q m _ hm hK
    show An (F_X1_ahead_b4 s x (nI i) (q + 1) (nI m)) _
    rw [F_X1_ahead_b4, if_neg (nI_pos (by omega))]
    refine An_bind (letter_tot s x _) fun a _ => An_bind (letter_tot s x _) fun b _ => An_if (fun _ => An_some (Or.inr ⟨m, by omega, rfl⟩)) (fun _ => ?_)
    rw [nm_at]
    exact hK () (by omega)
  · intro q _ hm
    show An (F_X1_ahead_b4 s x (nI i) (q + 1) (nI 0 - 1)) _
    rw [F_X1_ahead_b4, if_pos (show nI 0 - 1 < 0 from by decide)]
    exact An_some (Or.inl rfl)
theorem behind_tot (s : S1) (x : Int32) {i n : Nat} (hi : i < n) (hn : n < 1000) : Tot (F_X1_behind s x (nI i) (nI n)) := by
  unfold F_X1_behind
  rw [nm_at, nI_1]
  refine lp_up (fun q v (_ : Unit) => F_X1_behind_b5 s x (nI i) (nI n) q v) n (fun m _ => True) _ ?_ ?_ fu (i + 1) () (by omega) (by unfold fu; omega) trivial
  · intro q m _ hm _ hK
    show An (F_X1_behind_b5 s x (nI i) (nI n) (q + 1) (nI m)) _
    rw [F_X1_behind_b5, if_neg (nI_ge hm (by omega))]
    refine An_bind (letter_tot s x _) fun a _ => An_bind (letter_tot s x _) fun b _ => An_if (fun _ => An_some trivial) (fun _ => ?_)
    rw [nm_at, nI_1]
    exact hK () trivial
  · intro q _ _
    show An (F_X1_behind_b5 s x (nI i) (nI n) (q + 1) (nI n)) _
    rw [F_X1_behind_b5, if_pos (nI_le (Nat.le_refl n) (by omega))]
    exact An_some trivial
theorem pairs_tot (s : S1) (x : Int32) {n : Nat} (hn : n < 1000) : Tot (F_X1_pairs s x (nI n)) := by
  unfold F_X1_pairs
  rw [nm_at]
  refine lp_up (fun q v (_ : Unit) => F_X1_pairs_b2 s x (nI n) q v) n (fun m _ => True) _ ?_ ?_ fu 0 () (by omega) (by unfold fu; omega) trivial
  · intro q m _ hm _ hK
    show An (F_X1_pairs_b2 s x (nI n) (q + 1) (nI m)) _
    rw [F_X1_pairs_b2, if_neg (nI_ge hm (by omega))]
    have k : An (F_X1_pairs_b28 s x (nI n) (F_X1_pairs_b2 s x (nI n) q) (nI m)) (fun _ => True) := by
      unfold F_X1_pairs_b28
      rw [nm_at, nI_1]
      exact hK () trivial
    refine An_bind (ahead_tot s x (by omega)) fun a _ => An_if (fun _ => k) (fun _ => An_bind (behind_tot s x hm hn) fun b _ => An_if (fun _ => k) (fun _ => An_some trivial))
  · intro q _ _
    show An (F_X1_pairs_b2 s x (nI n) (q + 1) (nI n)) _
    rw [F_X1_pairs_b2, if_pos (nI_le (Nat.le_refl n) (by omega))]
    exact An_if (fun _ => An_some trivial) (fun _ => An_some trivial)
theorem word_tot (s : S4) (x : Int32) : Tot (F_X4_wordAt s x) := Tot.of (wordAt_t s x)
theorem thing_tot (s : S4) (x : Int32) : Tot (F_X4_thingAt s x) := Tot.of (thingAt_t s x)
theorem before_tot (s : S4) (x : Int32) : Tot (F_X4_beforeAt s x) := Tot.of (beforeAt_t s x)
theorem rhyme_tot (s : S10) (x a b : Int32) : Tot (F_X10_rhyme s x a b) := Tot.of (rhyme_t s x a b)
theorem fits_tot (s : S7) (w : S10) (x a b : Int32) : Tot (F_X7_fits s w x a b) := by
  unfold F_X7_fits
  exact (Tot.of (metreOf_t s x)).bind fun q => Tot.nm (Tot.ite Tot.some ((Tot.of (syll_t w a)).bind fun _ => Tot.ite Tot.some Tot.some))
/-! mended -/
theorem cost_tot (s : S3) (x y : Int32) : Tot (F_X3_costAt s x y) := by
  unfold F_X3_costAt
  exact (at_tot (by omega) _ _).bind fun _ => Tot.some
theorem best_tot {w : S10} {W : Nat} (hw : s10_size w = nI W) (h16 : W ≤ 16) (s : S3) (x2 x3 x4 : Int32) : Tot (F_X3_best w s x2 x3 x4) := by
  unfold F_X3_best
  refine Tot.nm (Tot.nm (Tot.nm ?_))
  refine lp_up (fun q v (x : Int32 × Int32) => F_X3_best_b11 w s x2 x3 x4 q x.1 x.2 v) W (fun m _ => True) _ ?_ ?_ fu 0 (-1, 1000) (by omega) (by unfold fu; omega) trivial
  · intro q m ⟨a, b⟩ hm _ hK
    show An (F_X3_best_b11 w s x2 x3 x4 (q + 1) a b (nI m)) _
    rw [F_X3_best_b11]
    unfold F_X10_size F_X3_best_b49 F_X3_best_b62
    rw [hw, Option.bind_some, if_neg (nI_ge hm (by omega))]
    have k : ∀ a b : Int32, An (nm (nI m + 1) fun v7_1 => F_X3_best_b11 w s x2 x3 x4 q a b v7_1) (fun _ => True) := by
      intro a b
      rw [nm_at, nI_1]
      exact hK (a, b) trivial
    have k2 : An ((F_X3_costAt s x3 (nI m)).bind fun q_2 => nm q_2 fun v6_3 => nm (nI m) fun v5_4 => nm (nI m + 1) fun v7_1 => F_X3_best_b11 w s x2 x3 x4 q v5_4 v6_3 v7_1) (fun _ => True) :=
      An_bind (cost_tot s x3 _) fun c _ => Tot.nm (Tot.nm (k _ _))
    refine An_bind (cost_tot s x3 _) fun c _ => An_if (fun _ => k a b) (fun _ => An_if (fun _ => k2) (fun _ => An_bind (rhyme_tot w x2 _ _) fun d _ => An_if (fun _ => k a b) (fun _ => k2)))
  · intro q ⟨a, b⟩ _
    show An (F_X3_best_b11 w s x2 x3 x4 (q + 1) a b (nI W)) _
    rw [F_X3_best_b11]
    unfold F_X10_size
    rw [hw, Option.bind_some, if_pos (nI_le (Nat.le_refl W) (by omega))]
    exact An_some trivial
theorem may_tot (t7 : S7) (t1 : S1) (tp : S4) (w : S10) (x y z : Int32) : Tot (F_X3_mayBecome t7 t1 tp w x y z) := by
  unfold F_X3_mayBecome
  exact (Tot.of (meaning_t w z)).bind fun _ => (word_tot tp y).bind fun _ => (Tot.of (meaning_t w _)).bind fun _ => Tot.ite ((letter_tot t1 x y).bind fun _ => (before_tot tp y).bind fun _ => (fits_tot t7 w _ _ _).bind fun _ => Tot.ite Tot.some Tot.some) Tot.some
theorem weigh3_tot {t7 : S7} {t1 : S1} {tp : S4} {w : S10} {W P i : Nat} (hw : s10_size w = nI W) (h16 : W ≤ 16) (hp : s4_size tp = nI P) (h8 : P ≤ 8) (hi : i < P) (s : S3) (x2 x3 : Int32) : Tot (F_X3_weigh t7 s t1 tp w x2 x3 (nI i)) := by
  unfold F_X3_weigh F_X4_size
  rw [hp, Option.bind_some]
  refine (behind_tot t1 x2 hi (by omega)).bind fun v5 => Tot.nm (Tot.nm ?_)
  refine lp_up (fun q v (z : S3) => F_X3_weigh_b22 t7 t1 tp w x2 x3 (nI i) q v5 v z) W (fun m _ => True) _ ?_ ?_ fu 0 s (by omega) (by unfold fu; omega) trivial
  · intro q m z hm _ hK
    show An (F_X3_weigh_b22 t7 t1 tp w x2 x3 (nI i) (q + 1) v5 (nI m) z) _
    rw [F_X3_weigh_b22]
    unfold F_X10_size
    rw [hw, Option.bind_some, if_neg (nI_ge hm (by omega)), nm_at]
    have k129 : ∀ v7 : Int32, An (F_X3_weigh_b129 t7 t1 tp w x2 x3 (nI i) (F_X3_weigh_b22 t7 t1 tp w x2 x3 (nI i) q) v5 (nI m) v7 z) (fun _ => True) := by
      intro v7
      unfold F_X3_weigh_b129
      refine An_bind (set_tot (by omega) _ _ _) fun f _ => ?_
      rw [nm_at, nI_1]
      exact hK _ trivial
    have k103 : ∀ k0 : Int32, An (F_X3_weigh_b103 t7 t1 tp w x2 x3 (nI i) (F_X3_weigh_b22 t7 t1 tp w x2 x3 (nI i) q) v5 (nI m) z k0) (fun _ => True) := by
      intro k0
      unfold F_X3_weigh_b103 F_X3_weigh_b126
      exact Tot.nm ((word_tot tp _).bind fun _ => Tot.ite (Tot.nm (k129 _)) (Tot.nm (k129 _)))
    have k73 : ∀ k0 : Int32, An (F_X3_weigh_b73 t7 t1 tp w x2 x3 (nI i) (F_X3_weigh_b22 t7 t1 tp w x2 x3 (nI i) q) v5 (nI m) z k0) (fun _ => True) := by
      intro k0
      unfold F_X3_weigh_b73
      exact Tot.nm (Tot.ite (Tot.ite ((cost_tot z _ _).bind fun _ => k103 _) (k103 _)) (k103 _))
    refine An_bind (may_tot t7 t1 tp w x2 _ _) fun a _ => An_if (fun _ => k129 _) (fun _ => An_if (fun _ => An_bind (best_tot hw h16 z x3 _ _) fun b _ => k73 b) (fun _ => k73 _))
  · intro q z _
    show An (F_X3_weigh_b22 t7 t1 tp w x2 x3 (nI i) (q + 1) v5 (nI W) z) _
    rw [F_X3_weigh_b22]
    unfold F_X10_size
    rw [hw, Option.bind_some, if_pos (nI_le (Nat.le_refl W) (by omega))]
    exact An_some trivial
theorem word3_tot (s : S3) (x : Int32) : Tot (F_X3_wordAt s x) := by
  unfold F_X3_wordAt
  exact (at_tot (by omega) _ _).bind fun _ => Tot.some
theorem mend_tot {t7 : S7} {t1 : S1} {tp : S4} {w : S10} {W P : Nat} (hw : s10_size w = nI W) (h16 : W ≤ 16) (hp : s4_size tp = nI P) (h8 : P ≤ 8) (s : S3) (x2 x3 : Int32) : Tot (F_X3_mend t7 s t1 tp w x2 x3) := by
  unfold F_X3_mend F_X4_size
  rw [hp, Option.bind_some]
  refine Tot.nm ((pairs_tot t1 x2 (by omega)).bind fun b => Tot.ite Tot.some (Tot.nm ?_))
  refine lp_dn (fun q v (z : S3) => F_X3_mend_b31 t7 t1 tp w x2 x3 q (nI P) v z) (fun m _ => m ≤ P) _ ?_ ?_ fu P s (by unfold fu; omega) (Nat.le_refl P)
  · intro q m z hm hK
    show An (F_X3_mend_b31 t7 t1 tp w x2 x3 (q + 1) (nI P) (nI m) z) _
    rw [F_X3_mend_b31, if_neg (nI_pos (by omega))]
    refine An_bind (weigh3_tot hw h16 hp h8 (by omega) z x2 x3) fun z2 _ => ?_
    rw [nm_at]
    exact hK z2 (by omega)
  · intro q z _
    show An (F_X3_mend_b31 t7 t1 tp w x2 x3 (q + 1) (nI P) (nI 0 - 1) z) _
    rw [F_X3_mend_b31, if_pos (show nI 0 - 1 < 0 from by decide), nm_at, nm_at]
    refine lp_up (fun q v (x : Int32 × S3) => F_X3_mend_b57 t7 t1 tp w x2 x3 q (nI P) x.1 v x.2) P (fun m _ => True) _ ?_ ?_ fu 0 (0, z) (by omega) (by unfold fu; omega) trivial
    · intro q2 m ⟨c, y⟩ hm _ hK
      show An (F_X3_mend_b57 t7 t1 tp w x2 x3 (q2 + 1) (nI P) c (nI m) y) _
      rw [F_X3_mend_b57, if_neg (nI_ge hm (by omega))]
      have k144 : ∀ (y2 : S3) (k0 k1 : Int32), An (F_X3_mend_b144 t7 t1 tp w x2 x3 (F_X3_mend_b57 t7 t1 tp w x2 x3 q2) (nI P) (nI m) y2 k0 k1) (fun _ => True) := by
        intro y2 k0 k1
        unfold F_X3_mend_b144
        rw [nm_at, nm_at, nI_1]
        exact hK (_, y2) trivial
      have k99 : ∀ (a b c2 : Int32), An (F_X3_mend_b99 t7 t1 tp w x2 x3 (F_X3_mend_b57 t7 t1 tp w x2 x3 q2) (nI P) c (nI m) y a b c2) (fun _ => True) := by
        intro a b c2
        unfold F_X3_mend_b99
        exact (best_tot hw h16 y _ _ _).bind fun _ => Tot.nm (Tot.ite ((set_tot (by omega) _ _ _).bind fun _ => (word_tot tp _).bind fun _ => Tot.ite (k144 _ _ _) (k144 _ _ _)) Tot.some)
      refine An_bind (ahead_tot t1 x2 (by omega)) fun a _ => ?_
      rw [nm_at]
      exact Tot.ite ((word3_tot y _).bind fun _ => k99 _ _ _) (k99 _ _ _)
    · intro q2 ⟨c, y⟩ _
      show An (F_X3_mend_b57 t7 t1 tp w x2 x3 (q2 + 1) (nI P) c (nI P) y) _
      rw [F_X3_mend_b57, if_pos (nI_le (Nat.le_refl P) (by omega))]
      exact An_some trivial
theorem noLine_tot (o : S11) (t7 : S7) {tp : S4} {P : Nat} (hp : s4_size tp = nI P) (h8 : P ≤ 8) (x : Int32) : Tot (F_X11_isNoLineNorAll o t7 tp x) := by
  unfold F_X11_isNoLineNorAll
  exact Tot.ite Tot.some ((Tot.of (has_t tp (by omega) hp x)).bind fun _ => Tot.ite Tot.some Tot.some)
theorem noView_tot (o : S11) (t7 : S7) {t1 : S1} {F : Nat} (hF : s1_size t1 = nI F) (h2 : F ≤ 2) (x y : Int32) : Tot (F_X11_isNoView o t7 t1 x y) := Tot.of (noView_t o t7 hF (by omega) x y)
theorem mendedX_tot {o : S11} {t7 : S7} {t1 : S1} {tp : S4} {w : S10} {W P F : Nat} (hw : s10_size w = nI W) (h16 : W ≤ 16) (hp : s4_size tp = nI P) (h8 : P ≤ 8) (hF : s1_size t1 = nI F) (h2 : F ≤ 2) (s : S3) (x1 x2 x3 : Int32) : Tot (F_X11_mended o s t7 t1 tp w x1 x2 x3) := by
  unfold F_X11_mended
  exact (noView_tot o t7 hF h2 _ _).bind fun _ => Tot.ite ((noLine_tot o t7 hp h8 _).bind fun _ => Tot.ite ((mend_tot hw h16 hp h8 s _ _).bind fun _ => Tot.nm (Tot.ite Tot.some (Tot.ite ((word3_tot _ _).bind fun _ => Tot.some) Tot.some))) Tot.some) Tot.some
