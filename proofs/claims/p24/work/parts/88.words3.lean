/-! ===== burnt: the class counts the words ===== -/
theorem reach_lp {t10 : S10} {s : S2} {W d a w : Nat} {sd : Nat → Int32} {p : Nat → Bool} (hz : s10_size t10 = nI W) (h16 : W ≤ 16) (hd : d < 3) (hs : ∀ w, w < W → s10_sounds t10 (16 * d + w) = sd w) (ha : a < 8) (hw : w < W) (hp : ∀ u, u < W → tb (s2_possible s a) u = p u) : An (F_X2_isReached t10 s (nI d) (nI a) (nI w)) (fun r => (r = 1 ∧ ∃ u, u < W ∧ p u = true ∧ rhv sd u w = true) ∨ (r = 0 ∧ ¬ ∃ u, u < W ∧ p u = true ∧ rhv sd u w = true)) := by
  unfold F_X2_isReached
  rw [at_total (by omega), Option.bind_some, nm_at, nm_at]
  have ea : atv 8 (s2_possible s) (nI a) = s2_possible s a := atvN ha (by omega)
  refine lp_up (fun q v (_ : Unit) => F_X2_isReached_b13 t10 s (nI d) (nI a) (nI w) q (atv 8 (s2_possible s) (nI a)) v) W (fun m _ => ∀ u, u < m → ¬ (p u = true ∧ rhv sd u w = true)) _ ?_ ?_ fu 0 () (by omega) (by unfold fu; omega) (fun u hu => by omega)
  · intro q m _ hm hn hK
    show An (F_X2_isReached_b13 t10 s (nI d) (nI a) (nI w) (q + 1) (atv 8 (s2_possible s) (nI a)) (nI m)) _
    rw [F_X2_isReached_b13]
    unfold F_X10_size
    rw [hz, Option.bind_some, if_neg (nI_ge hm (by omega)), ea, tb_sh _ (by omega), hp m hm, ← ea]
    have k46 : ¬ (p m = true ∧ rhv sd m w = true) → An (F_X2_isReached_b46 t10 s (nI d) (nI a) (nI w) (F_X2_isReached_b13 t10 s (nI d) (nI a) (nI w) q) (atv 8 (s2_possible s) (nI a)) (nI m)) (fun r => (r = 1 ∧ ∃ u, u < W ∧ p u = true ∧ rhv sd u w = true) ∨ (r = 0 ∧ ¬ ∃ u, u < W ∧ p u = true ∧ rhv sd u w = true)) := by
      intro h
      unfold F_X2_isReached_b46
      rw [nm_at, nI_1]
      refine hK () fun u hu => ?_
      by_cases e : u = m
      · rw [e]; exact h
      · exact hn u (by omega)
    by_cases c : p m = true
    · rw [if_pos c, if_neg (show ¬ (1 : Int32) = 0 from by decide), rhyme_ok hd h16 hs hm hw, Option.bind_some]
      by_cases e : rhv sd m w = true
      · rw [if_pos e, if_neg (show ¬ (1 : Int32) = 0 from by decide)]
        exact An_some (Or.inl ⟨rfl, m, hm, c, e⟩)
      · rw [if_neg e, if_pos rfl]
        exact k46 fun q => e q.2
    · rw [if_neg c, if_pos rfl]
      exact k46 fun q => c q.1
  · intro q _ hn
    show An (F_X2_isReached_b13 t10 s (nI d) (nI a) (nI w) (q + 1) (atv 8 (s2_possible s) (nI a)) (nI W)) _
    rw [F_X2_isReached_b13]
    unfold F_X10_size
    rw [hz, Option.bind_some, if_pos (nI_le (Nat.le_refl W) (by omega))]
    exact An_some (Or.inr ⟨rfl, fun ⟨u, h1, h2⟩ => hn u h1 h2⟩)
theorem ps_ok {L : Nat → Nat} {W n : Nat} {ok : Nat → Nat → Bool} {sd : Nat → Int32} {i w : Nat} (h : psb L W n ok sd i w = true) : ok i w = true := by
  have e : fw L W ok sd i w = if als ok sd (cn (sd w)) i w = true then (if (wd L (L i) W (als ok sd (cn (sd w))) i).1 = 0 then 1 else sm (fun v => if v = w then 0 else (wd L (L i) W (als ok sd (cn (sd w))) i).2 v) W) else 0 := by
    unfold fw
    rw [wd, if_pos rfl]
  unfold psb at h
  rw [decide_eq_true_iff, mul_pos2, e] at h
  by_cases c : als ok sd (cn (sd w)) i w = true
  · unfold als at c
    simp only [Bool.and_eq_true] at c
    exact c.1
  · rw [if_neg c] at h
    omega
theorem pc_ct {x : Int32} {W : Nat} {p : Nat → Bool} (h : ∀ b, b < 32 → tb x b = (decide (b < W) && p b)) : ∀ k, k ≤ 32 → pcN x k = ctp p (if k ≤ W then k else W) := by
  intro k
  induction k with
  | zero => intro _; rw [if_pos (Nat.zero_le _)]; rfl
  | succ k ih =>
    intro hk
    rw [pcN, ih (by omega), h k (by omega)]
    by_cases c : k + 1 ≤ W
    · rw [if_pos c, if_pos (by omega), ctp]
      simp [show k < W from by omega]
    · rw [if_neg c]
      by_cases d : k ≤ W
      · rw [if_pos d, show k = W from by omega]
        simp
      · rw [if_neg d]
        simp [show ¬ k < W from by omega]
theorem ctp_cg {p q : Nat → Bool} : ∀ {n : Nat}, (∀ w, w < n → p w = q w) → ctp p n = ctp q n := by
  intro n
  induction n with
  | zero => intro _; rfl
  | succ n ih => intro h; rw [ctp, ctp, ih fun w hw => h w (by omega), h n (by omega)]
theorem ctp_0 {p : Nat → Bool} : ∀ {n : Nat}, (∀ w, w < n → p w = false) → ctp p n = 0 := by
  intro n
  induction n with
  | zero => intro _; rfl
  | succ n ih => intro h; rw [ctp, ih fun w hw => h w (by omega), h n (by omega)]; rfl
theorem ctp_le {p : Nat → Bool} : ∀ {n : Nat}, ctp p n ≤ n := by
  intro n
  induction n with
  | zero => exact Nat.le_refl _
  | succ n ih => rw [ctp]; split <;> omega
theorem words_t {t7 : S7} {t10 : S10} {t1 : S1} {tp : S4} {W F P f d : Nat} {rf rm rw sd bf : Nat → Int32} {pw : Nat → Nat} (h : GH t7 t10 t1 tp W F P f d rf rm rw sd pw bf) (hsd : ∀ w, w < W → Lb (sd w) 26) {ok : Nat → Nat → Bool} {i : Nat} (hi : i < P) (s : S2) (hwy : ∀ j v, j < P → v < W → s2_ways s (16 * j + v) = jN (bk (vL rf f) W P ok sd j v)) : An (F_X2_wordsOf t7 s t1 t10 (nI f) (nI d) (nI i)) (fun q => q.1 = nI (ctp (fun w => psb (vL rf f) W P ok sd i w) W)) := by
  obtain ⟨hM, hW, hF, hf, hp, h8, hd, hs, hpp⟩ := h
  have h16 := hW.1
  have hz := hW.2.1
  unfold F_X2_wordsOf
  rw [nm_at]
  refine lp_up (fun q v (z : S2) => F_X2_wordsOf_b3 t7 t1 t10 (nI f) (nI d) (nI i) q v z) (i + 1) (fun m z => s2_ways z = s2_ways s ∧ ∀ j, j < m → ∀ b, b < 32 → tb (s2_possible z j) b = (decide (b < W) && psb (vL rf f) W P ok sd j b)) _ ?_ ?_ fu 0 s (by omega) (by unfold fu; omega) ⟨rfl, fun j hj => by omega⟩
  · intro q m z hm ⟨h1, h2⟩ hK
    have hmP : m < P := by omega
    show An (F_X2_wordsOf_b3 t7 t1 t10 (nI f) (nI d) (nI i) (q + 1) (nI m) z) _
    rw [F_X2_wordsOf_b3, if_neg (nI_nlt (by omega) (by omega))]
    refine An_bind (ahead_s hF hf (by omega)) fun v6 hv => ?_
    rw [nm_at, nm_at, nm_at]
    refine lp_up (fun q2 v (x : Int32) => F_X2_wordsOf_b28 t7 t1 t10 (nI f) (nI d) (nI i) (F_X2_wordsOf_b3 t7 t1 t10 (nI f) (nI d) (nI i) q) q2 (nI m) v6 x v z) W (fun w x => ∀ b, b < 32 → tb x b = (decide (b < w) && psb (vL rf f) W P ok sd m b)) _ ?_ ?_ fu 0 0 (by omega) (by unfold fu; omega) (fun b _ => by rw [tb_0]; simp)
    · intro q2 w x hw2 hx hK2
      have h83 : psb (vL rf f) W P ok sd m w = false → An (F_X2_wordsOf_b83 t7 t1 t10 (nI f) (nI d) (nI i) (F_X2_wordsOf_b3 t7 t1 t10 (nI f) (nI d) (nI i) q) (F_X2_wordsOf_b28 t7 t1 t10 (nI f) (nI d) (nI i) (F_X2_wordsOf_b3 t7 t1 t10 (nI f) (nI d) (nI i) q) q2) (nI m) v6 x (nI w) z) (fun q => q.1 = nI (ctp (fun w => psb (vL rf f) W P ok sd i w) W)) := by
        intro e
        unfold F_X2_wordsOf_b83
        rw [nm_at, nI_1]
        refine hK2 _ fun b hb => ?_
        rw [hx b hb]
        by_cases c : b = w
        · rw [c, e]; simp
        · rw [show decide (b < w + 1) = decide (b < w) from decide_eq_decide.mpr (by omega)]
      have h74 : psb (vL rf f) W P ok sd m w = true → An (F_X2_wordsOf_b74 t7 t1 t10 (nI f) (nI d) (nI i) (F_X2_wordsOf_b3 t7 t1 t10 (nI f) (nI d) (nI i) q) (F_X2_wordsOf_b28 t7 t1 t10 (nI f) (nI d) (nI i) (F_X2_wordsOf_b3 t7 t1 t10 (nI f) (nI d) (nI i) q) q2) (nI m) v6 x (nI w) z) (fun q => q.1 = nI (ctp (fun w => psb (vL rf f) W P ok sd i w) W)) := by
        intro e
        unfold F_X2_wordsOf_b74 F_X2_wordsOf_b83
        rw [nm_at, nm_at, nI_1]
        refine hK2 _ fun b hb => ?_
        rw [tb_or, tb_nI (by omega) b hb, hx b hb]
        by_cases c : b = w
        · rw [c, e]; simp
        · rw [show decide (b < w + 1) = decide (b < w) from decide_eq_decide.mpr (by omega)]
          simp [c]
      have hb := lgc (pow16 h8 (bk_bd (L := vL rf f) (W := W) (n := P) (ok := ok) (sd := sd) h16 hmP w))
      show An (F_X2_wordsOf_b28 t7 t1 t10 (nI f) (nI d) (nI i) (F_X2_wordsOf_b3 t7 t1 t10 (nI f) (nI d) (nI i) q) (q2 + 1) (nI m) v6 x (nI w) z) _
      rw [F_X2_wordsOf_b28]
      unfold F_X10_size
      rw [hz, Option.bind_some, if_neg (nI_ge hw2 (by omega)), waysAt_t (by omega) (by omega), Option.bind_some, h1, hwy m w hmP hw2]
      rcases ps_ah (ok := ok) hsd hmP hw2 hv with ⟨e1, e2⟩ | ⟨a, a1, e1, e2⟩
      · by_cases c : bk (vL rf f) W P ok sd m w = 0
        · rw [if_pos (hb.mpr c)]
          refine h83 ?_
          cases hq : psb (vL rf f) W P ok sd m w
          · rfl
          · have := e2.mp hq; omega
        · rw [if_neg (fun q => c (hb.mp q)), if_pos (show v6 < 0 from by rw [e1]; decide)]
          exact h74 (e2.mpr (by omega))
      · by_cases c : bk (vL rf f) W P ok sd m w = 0
        · rw [if_pos (hb.mpr c)]
          refine h83 ?_
          cases hq : psb (vL rf f) W P ok sd m w
          · rfl
          · have := (e2.mp hq).1; omega
        · rw [if_neg (fun q => c (hb.mp q)), if_neg (show ¬ v6 < 0 from by rw [e1]; exact nI_pos (by omega))]
          refine An_bind (show An (F_X2_isReached t10 z (nI d) v6 (nI w)) (fun r => (r = 1 ∧ ∃ u, u < W ∧ psb (vL rf f) W P ok sd a u = true ∧ rhv sd u w = true) ∨ (r = 0 ∧ ¬ ∃ u, u < W ∧ psb (vL rf f) W P ok sd a u = true ∧ rhv sd u w = true)) from by rw [e1]; exact reach_lp (p := fun u => psb (vL rf f) W P ok sd a u) hz h16 hd hs (by omega) hw2 (fun u hu => by rw [h2 a a1 u (by omega)]; simp [hu])) fun r hr => ?_
          rcases hr with ⟨er, hr⟩ | ⟨er, hr⟩
          · rw [if_neg (show ¬ r = 0 from by rw [er]; decide)]
            exact h74 (e2.mpr ⟨by omega, hr⟩)
          · rw [if_pos er]
            refine h83 ?_
            cases hq : psb (vL rf f) W P ok sd m w
            · rfl
            · exact absurd (e2.mp hq).2 hr
    · intro q2 x hx
      show An (F_X2_wordsOf_b28 t7 t1 t10 (nI f) (nI d) (nI i) (F_X2_wordsOf_b3 t7 t1 t10 (nI f) (nI d) (nI i) q) (q2 + 1) (nI m) v6 x (nI W) z) _
      rw [F_X2_wordsOf_b28]
      unfold F_X10_size
      rw [hz, Option.bind_some, if_pos (nI_le (Nat.le_refl W) (by omega)), set_total (by omega), Option.bind_some, nm_at, nI_1]
      refine hK _ ⟨h1, fun j hj b hb => ?_⟩
      show tb (setv 8 (s2_possible z) (nI m) x j) b = _
      rw [setvN (by omega) (by omega), u_at]
      by_cases c : j = m
      · rw [if_pos c, hx b hb, c]
      · rw [if_neg c]; exact h2 j (by omega) b hb
  · intro q z ⟨h1, h2⟩
    show An (F_X2_wordsOf_b3 t7 t1 t10 (nI f) (nI d) (nI i) (q + 1) (nI (i + 1)) z) _
    have hb := h2 i (by omega)
    rw [F_X2_wordsOf_b3, if_pos (nI_lt (by omega) (by omega)), at_total (by omega), Option.bind_some, atvN (by omega) (by omega), bit_t16 (fun b hb2 h16b => by rw [hb b hb2]; simp [show ¬ b < W from by omega]), Option.bind_some]
    refine An_some ?_
    show nI (pcN (s2_possible z i) 16) = _
    rw [pc_ct hb 16 (by omega)]
    by_cases c : 16 ≤ W
    · rw [if_pos c, show W = 16 from by omega]
    · rw [if_neg c]
