/-! ===== burnt: the class weighs the ways ===== -/
theorem ix16 (i w : Nat) : nI i * 16 + nI w = nI (16 * i + w) := by
  rw [show nI i * (16 : Int32) = nI (i * 16) from nI_mul i 16, nI_add, Nat.mul_comm]
theorem waysAt_t {s : S2} {i w : Nat} (hi : i < 8) (hw : w < 16) : F_X2_waysAt s (nI i) (nI w) = some (s2_ways s (16 * i + w)) := by
  unfold F_X2_waysAt
  rw [nm_at, ix16, if_neg (nI_pos (by omega)), if_neg (show ¬ (128 : Int32) ≤ nI (16 * i + w) from nI_ge (b := 128) (by omega) (by omega)), agLN (by omega) (by omega), Option.bind_some]
theorem setWays_t {s : S2} {i w : Nat} (hi : i < 8) (hw : w < 16) (x : Int64) : F_X2_setWays s (nI i) (nI w) x = some (u2_ways s (vp_updL (s2_ways s) (16 * i + w) x)) := by
  unfold F_X2_setWays
  rw [nm_at, ix16, if_neg (nI_pos (by omega)), if_neg (show ¬ (128 : Int32) ≤ nI (16 * i + w) from nI_ge (b := 128) (by omega) (by omega)), asLN x (by omega) (by omega), Option.bind_some, nm_at]
theorem sum_t {t10 : S10} {s : S2} {W d i : Nat} {sd : Nat → Int32} {g : Nat → Nat} {x4 : Int32} {rr : Nat → Bool} (hz : s10_size t10 = nI W) (h16 : W ≤ 16) (hd : d < 3) (hs : ∀ w, w < W → s10_sounds t10 (16 * d + w) = sd w) (hi : i < 8) (hg : ∀ v, v < W → s2_ways s (16 * i + v) = jN (g v)) (hx : (x4 = -1 ∧ ∀ v, rr v = true) ∨ ∃ w, w < W ∧ x4 = nI w ∧ ∀ v, rr v = rhv sd w v) : An (F_X2_sum t10 s (nI d) (nI i) x4) (fun r => r = jN (sm (fun v => if rr v = true then g v else 0) W)) := by
  unfold F_X2_sum
  rw [nm_at, nm_at]
  refine lp_up (fun q v (a : Int64) => F_X2_sum_b6 t10 s (nI d) (nI i) x4 q a v) W (fun v a => a = jN (sm (fun v => if rr v = true then g v else 0) v)) _ ?_ ?_ fu 0 0 (by omega) (by unfold fu; omega) jN_0
  · intro q v a hv ha hK
    show An (F_X2_sum_b6 t10 s (nI d) (nI i) x4 (q + 1) a (nI v)) _
    rw [F_X2_sum_b6]
    unfold F_X10_size
    rw [hz, Option.bind_some, if_neg (nI_ge hv (by omega))]
    have k44 : ∀ b : Nat, b = (if rr v = true then g v else 0) → An (F_X2_sum_b44 t10 s (nI d) (nI i) x4 (F_X2_sum_b6 t10 s (nI d) (nI i) x4 q) (a + jN b) (nI v)) (fun r => r = jN (sm (fun v => if rr v = true then g v else 0) W)) := by
      intro b hb
      unfold F_X2_sum_b44
      rw [nm_at, nI_1]
      refine hK _ ?_
      rw [ha, jN_add, hb]
      rfl
    have k32 : rr v = true → An (F_X2_sum_b32 t10 s (nI d) (nI i) x4 (F_X2_sum_b6 t10 s (nI d) (nI i) x4 q) a (nI v)) (fun r => r = jN (sm (fun v => if rr v = true then g v else 0) W)) := by
      intro e
      unfold F_X2_sum_b32
      rw [waysAt_t hi (by omega), Option.bind_some, nm_at, hg v hv]
      exact k44 _ (by rw [if_pos e])
    rcases hx with ⟨ex, er⟩ | ⟨w, hw, ex, er⟩
    · rw [if_pos (show x4 < 0 from by rw [ex]; decide)]
      exact k32 (er v)
    · rw [if_neg (show ¬ x4 < 0 from by rw [ex]; exact nI_pos (by omega)), ex, rhyme_ok hd h16 hs hw hv, Option.bind_some]
      rw [← ex]
      by_cases c : rhv sd w v = true
      · rw [if_pos c, if_neg (show ¬ (1 : Int32) = 0 from by decide)]
        exact k32 (by rw [er]; exact c)
      · rw [if_neg c, if_pos rfl]
        have := k44 0 (by rw [if_neg (by rw [er]; exact c)])
        rw [show a + jN 0 = a from by rw [← jN_0]; exact Int64.add_zero a] at this
        exact this
  · intro q a ha
    show An (F_X2_sum_b6 t10 s (nI d) (nI i) x4 (q + 1) a (nI W)) _
    rw [F_X2_sum_b6]
    unfold F_X10_size
    rw [hz, Option.bind_some, if_pos (nI_le (Nat.le_refl W) (by omega))]
    exact An_some ha
/-- what the class holds at a line's word -/
def bk (L : Nat → Nat) (W n : Nat) (ok : Nat → Nat → Bool) (sd : Nat → Int32) (i w : Nat) : Nat := if ok i w = true then cm L (L i) W n ok sd (n - (i + 1)) w else 0
theorem cm_skip {L : Nat → Nat} {l W n : Nat} {ok : Nat → Nat → Bool} {sd : Nat → Int32} : ∀ g a, (∀ m, a ≤ m → m < a + g → ¬ L m = l) → a + g ≤ n → cm L l W n ok sd (n - a) = cm L l W n ok sd (n - (a + g)) := by
  intro g
  induction g with
  | zero => intro a _ _; rfl
  | succ g ih =>
    intro a h hn
    obtain ⟨k, hk⟩ : ∃ k, n - a = k + 1 := ⟨n - a - 1, by omega⟩
    rw [hk, cm, show n - (k + 1) = a from by omega, if_neg (h a (by omega) (by omega)), show k = n - (a + 1) from by omega, ih (a + 1) (fun m h1 h2 => h m (by omega) (by omega)) (by omega), show a + 1 + g = a + (g + 1) from by omega]
theorem cm_bh {L : Nat → Nat} {W n i : Nat} {ok : Nat → Nat → Bool} {sd : Nat → Int32} {r : Int32} (hi : i < n) (hb : bhS L n i r) (w : Nat) : (r = -1 ∧ cm L (L i) W n ok sd (n - (i + 1)) w = 1) ∨ ∃ j, i < j ∧ j < n ∧ r = nI j ∧ cm L (L i) W n ok sd (n - (i + 1)) w = sm (fun v => if rhv sd w v = true then bk L W n ok sd j v else 0) W := by
  rcases hb with ⟨e, h⟩ | ⟨j, j1, j2, j3, j4, e⟩
  · refine Or.inl ⟨e, ?_⟩
    rw [cm_skip (n - (i + 1)) (i + 1) (fun m h1 h2 => h m (by omega) (by omega)) (by omega), show n - (i + 1 + (n - (i + 1))) = 0 from by omega, cm]
  · refine Or.inr ⟨j, j1, j2, e, ?_⟩
    rw [cm_skip (j - (i + 1)) (i + 1) (fun m h1 h2 => j4 m (by omega) (by omega)) (by omega), show n - (i + 1 + (j - (i + 1))) = (n - (j + 1)) + 1 from by omega, cm, show n - (n - (j + 1) + 1) = j from by omega, if_pos j3]
    refine sm_cg fun v _ => ?_
    unfold bk
    rw [j3]
    by_cases a : rhv sd w v = true
    · rw [a, Bool.true_and, if_pos rfl]
    · rw [if_neg a, if_neg (by simp [a])]
/-- what the class reads when it weighs -/
def GH (t7 : S7) (t10 : S10) (t1 : S1) (tp : S4) (W F P f d : Nat) (rf rm rw : Nat → Int32) (sd : Nat → Int32) (pw : Nat → Nat) (bf : Nat → Int32) : Prop :=
  MR t7 rm ∧ WR t10 W rw ∧ FR t1 F rf ∧ f < F ∧ s4_size tp = nI P ∧ P ≤ 8 ∧ d < 3 ∧ (∀ w, w < W → s10_sounds t10 (16 * d + w) = sd w) ∧ ∀ i, i < P → atv 8 (s4_words tp) (nI i) = nI (pw i) ∧ pw i < W ∧ atv 8 (s4_befores tp) (nI i) = bf i
theorem weigh_t {t7 : S7} {t10 : S10} {t1 : S1} {tp : S4} {W F P f d : Nat} {rf rm rw sd bf : Nat → Int32} {pw : Nat → Nat} (h : GH t7 t10 t1 tp W F P f d rf rm rw sd pw bf) {i : Nat} (hi : i < P) {x5 : Int32} {un : Bool} (hx : (x5 = 0 ∧ un = false) ∨ (x5 = 1 ∧ un = true)) {ok : Nat → Nat → Bool} (hok : ∀ w, w < W → ok i w = ((un || decide (w = pw i)) && okv rm rw (vL rf f i) w (bf i))) {s : S2} (hl : ∀ j v, i < j → j < P → v < W → s2_ways s (16 * j + v) = jN (bk (vL rf f) W P ok sd j v)) : An (F_X2_weigh t7 s t1 tp t10 (nI f) (nI d) (nI i) x5) (fun z => s2_possible z = s2_possible s ∧ (∀ j v, ¬ j = i → v < 16 → s2_ways z (16 * j + v) = s2_ways s (16 * j + v)) ∧ ∀ v, v < W → s2_ways z (16 * i + v) = jN (bk (vL rf f) W P ok sd i v)) := by
  obtain ⟨hM, hW, hF, hf, hp, h8, hd, hs, hpp⟩ := h
  have h16 := hW.1
  have hz := hW.2.1
  obtain ⟨p1, p2, p3⟩ := hpp i hi
  have hL := (vL_lt hF hf i).1
  unfold F_X2_weigh F_X4_size
  rw [hp, Option.bind_some]
  refine An_bind (behind_s hF hf hi (by omega)) fun bb hb => ?_
  rw [nm_at, let_eq hF hf (by omega), Option.bind_some, nm_at, nm_at]
  refine lp_up (fun q v (z : S2) => F_X2_weigh_b34 t7 t1 tp t10 (nI f) (nI d) (nI i) x5 q bb (nI (vL rf f i)) v z) W (fun w z => s2_possible z = s2_possible s ∧ (∀ j v, ¬ j = i → v < 16 → s2_ways z (16 * j + v) = s2_ways s (16 * j + v)) ∧ ∀ v, v < w → s2_ways z (16 * i + v) = jN (bk (vL rf f) W P ok sd i v)) _ ?_ ?_ fu 0 s (by omega) (by unfold fu; omega) ⟨rfl, fun _ _ _ _ => rfl, fun v hv => by omega⟩
  · intro q w z hw ⟨h1, h2, h3⟩ hK
    show An (F_X2_weigh_b34 t7 t1 tp t10 (nI f) (nI d) (nI i) x5 (q + 1) bb (nI (vL rf f i)) (nI w) z) _
    rw [F_X2_weigh_b34]
    unfold F_X10_size
    rw [hz, Option.bind_some, if_neg (nI_ge hw (by omega)), nm_at]
    have k112 : ∀ x : Nat, x = bk (vL rf f) W P ok sd i w → An (F_X2_weigh_b112 t7 t1 tp t10 (nI f) (nI d) (nI i) x5 (F_X2_weigh_b34 t7 t1 tp t10 (nI f) (nI d) (nI i) x5 q) bb (nI (vL rf f i)) (nI w) (jN x) z) (fun z => s2_possible z = s2_possible s ∧ (∀ j v, ¬ j = i → v < 16 → s2_ways z (16 * j + v) = s2_ways s (16 * j + v)) ∧ ∀ v, v < W → s2_ways z (16 * i + v) = jN (bk (vL rf f) W P ok sd i v)) := by
      intro x hx
      unfold F_X2_weigh_b112
      rw [setWays_t (by omega) (by omega), Option.bind_some, nm_at, nI_1]
      refine hK _ ⟨h1, fun j v hj hv => ?_, fun v hv => ?_⟩
      · show vp_updL (s2_ways z) (16 * i + w) (jN x) (16 * j + v) = _
        rw [uL_at, if_neg (by omega)]
        exact h2 j v hj hv
      · show vp_updL (s2_ways z) (16 * i + w) (jN x) (16 * i + v) = _
        rw [uL_at]
        by_cases e : v = w
        · rw [if_pos (by omega), hx, e]
        · rw [if_neg (by omega)]; exact h3 v (by omega)
    have k68 : (un || decide (w = pw i)) = true → An (F_X2_weigh_b68 t7 t1 tp t10 (nI f) (nI d) (nI i) x5 (F_X2_weigh_b34 t7 t1 tp t10 (nI f) (nI d) (nI i) x5 q) bb (nI (vL rf f i)) (nI w) 0 z) (fun z => s2_possible z = s2_possible s ∧ (∀ j v, ¬ j = i → v < 16 → s2_ways z (16 * j + v) = s2_ways s (16 * j + v)) ∧ ∀ v, v < W → s2_ways z (16 * i + v) = jN (bk (vL rf f) W P ok sd i v)) := by
      intro eu
      unfold F_X2_weigh_b68
      rw [beforeAt_t, Option.bind_some, p3, fits_ok hM hW hL hw, Option.bind_some]
      by_cases c : okv rm rw (vL rf f i) w (bf i) = true
      · have eo : ok i w = true := by rw [hok w hw, eu, c]; rfl
        have eb : bk (vL rf f) W P ok sd i w = cm (vL rf f) (vL rf f i) W P ok sd (P - (i + 1)) w := by unfold bk; rw [if_pos eo]
        rw [if_pos c, if_neg (show ¬ (1 : Int32) = 0 from by decide)]
        unfold F_X2_weigh_b110
        rcases cm_bh (W := W) (ok := ok) (sd := sd) hi hb w with ⟨e1, e2⟩ | ⟨j, j1, j2, e1, e2⟩
        · rw [if_neg (show ¬ (0 : Int32) ≤ bb from by rw [e1]; decide), nm_at, jN_1]
          exact k112 1 (by rw [eb, e2])
        · rw [if_pos (show (0 : Int32) ≤ bb from by rw [e1]; exact nI_pos' (by omega))]
          refine An_bind (show An (F_X2_sum t10 z (nI d) bb (nI w)) (fun r => r = jN (sm (fun v => if rhv sd w v = true then bk (vL rf f) W P ok sd j v else 0) W)) from by rw [e1]; exact sum_t (g := bk (vL rf f) W P ok sd j) (rr := rhv sd w) hz h16 hd hs (by omega) (fun v hv => by rw [h2 j v (by omega) (by omega)]; exact hl j v j1 j2 hv) (Or.inr ⟨w, hw, rfl, fun _ => rfl⟩)) fun r hr => ?_
          rw [nm_at, hr]
          exact k112 _ (by rw [eb, e2])
      · rw [if_neg c, if_pos rfl, jN_0]
        exact k112 0 (by unfold bk; rw [if_neg (by rw [hok w hw]; simp [c])])
    rcases hx with ⟨ex, eu⟩ | ⟨ex, eu⟩
    · rw [if_pos ex, wordAt_t, Option.bind_some, p1]
      by_cases c : w = pw i
      · rw [if_pos (show nI w = nI (pw i) from by rw [c])]
        exact k68 (by simp [c])
      · rw [if_neg (show ¬ nI w = nI (pw i) from by rw [nI_eq (by omega) (by omega)]; exact c), jN_0]
        exact k112 0 (by unfold bk; rw [if_neg (by rw [hok w hw, eu]; simp [c])])
    · rw [if_neg (show ¬ x5 = 0 from by rw [ex]; decide)]
      exact k68 (by rw [eu]; rfl)
  · intro q z hz2
    show An (F_X2_weigh_b34 t7 t1 tp t10 (nI f) (nI d) (nI i) x5 (q + 1) bb (nI (vL rf f i)) (nI W) z) _
    rw [F_X2_weigh_b34]
    unfold F_X10_size
    rw [hz, Option.bind_some, if_pos (nI_le (Nat.le_refl W) (by omega))]
    exact An_some hz2
