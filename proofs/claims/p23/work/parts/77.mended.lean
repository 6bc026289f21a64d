/-! ===== mended: the reference answers ===== -/
theorem MH_ok {t7 : S7} {t10 : S10} {t1 : S1} {P W F f : Nat} {ms s : SM} (hM : MR t7 (mA ms 11)) (hWR : WR t10 W (mA ms 9)) (hFR : FR t1 F (mA ms 10)) (hf : f < F) (h8 : P ≤ 8) (h13 : mI ms 13 = nI W) (hr : LW P W (fun j => mA ms 21 (1 + j))) (hfr : Fr scI scA scJ ms s) (h25 : mI s 25 = nI P) (h24 : ∀ j, j < 3 * P → mA s 24 j = mA ms 21 (1 + j)) : MH W P f (vL (mA ms 10) f) (fun i w => okv (mA ms 11) (mA ms 9) (vL (mA ms 10) f i) w (mA ms 21 (1 + (3 * i + 2)))) (fun i => cn (mA ms 21 (1 + 3 * i))) s := by
  have h16 := hWR.1
  refine ⟨(hfr.1 13 (by decide)).trans h13, h16, h25, h8, fun s' hs' => ?_, fun i _ => (vL_lt hFR hf i).1, fun i hi => ?_⟩
  · have e10 : mA s' 10 = mA ms 10 := by rw [hs'.2.1 10 (by decide), hfr.2.1 10 (by decide)]
    have e11 : mA s' 11 = mA ms 11 := by rw [hs'.2.1 11 (by decide), hfr.2.1 11 (by decide)]
    have e9 : mA s' 9 = mA ms 9 := by rw [hs'.2.1 9 (by decide), hfr.2.1 9 (by decide)]
    have hF' : FR t1 F (mA s' 10) := by rw [e10]; exact hFR
    refine ⟨fun i hi => ?_, fun i w hi hw => ?_⟩
    · rw [letterOf_t hF' hf (by omega), e10, (vL_lt hFR hf i).2]
    · rw [isMetre_ok hF' hf (by omega) (by omega), e10, e11, e9, hs'.2.1 24 (by decide), h24 (3 * i + 2) (by omega)]
  · obtain ⟨e1, e2⟩ := Lb_cn (hr i hi).1 (by omega)
    rw [hfr.2.1 21 (by decide)]
    have e3 : cn (mA ms 21 (1 + 3 * i)) < W := e2
    exact ⟨e1, by show cn (mA ms 21 (1 + 3 * i)) < 16; omega⟩
/-- one word of x alone -/
def sg (x : Int32) (w : Nat) : Prop := w < 16 ∧ ∀ b, b < 32 → tb x b = decide (b = w)
theorem sg_and {x : Int32} {w : Nat} (hw : w < 16) (h : tb x w = true) : sg (x &&& (1 <<< (nI w &&& 31))) w := by
  refine ⟨hw, fun b hb => ?_⟩
  rw [tb_and, tb_nI (by omega) b hb]
  by_cases c : b = w
  · rw [c, h]; simp
  · simp [c]
theorem and_0 {x : Int32} {w : Nat} (hw : w < 16) : x &&& (1 <<< (nI w &&& 31)) = 0 ↔ tb x w = false := by
  constructor
  · intro h
    have e : tb (x &&& (1 <<< (nI w &&& 31))) w = false := by rw [h, tb_0]
    rw [tb_and, tb_nI (by omega) w (by omega)] at e
    simpa using e
  · intro h
    refine tb_ext fun b hb => ?_
    rw [tb_and, tb_nI (by omega) b hb, tb_0]
    by_cases c : b = w
    · rw [c, h]; simp
    · simp [c]
theorem sg_sh : ∀ w : Fin 16, ∀ v : Fin 16, (((1 : Int32) <<< (nI w.val &&& 31)) >>> (nI v.val &&& 31) = 1) = (v.val = w.val) := by
  have h : ∀ w : Fin 16, ∀ v : Fin 16, decide (((1 : Int32) <<< (nI w.val &&& 31)) >>> (nI v.val &&& 31) = 1) = decide (v.val = w.val) := by decide +kernel
  intro w v
  have e := h w v
  exact propext ⟨fun p => of_decide_eq_true (by rw [← e]; exact decide_eq_true p), fun p => of_decide_eq_true (by rw [e]; exact decide_eq_true p)⟩
theorem sg_eq {x : Int32} {w : Nat} (h : sg x w) : x = 1 <<< (nI w &&& 31) := by
  refine tb_ext fun b hb => ?_
  rw [h.2 b hb, tb_nI (by have := h.1; omega) b hb]
theorem sg_at {x : Int32} {w v : Nat} (h : sg x w) (hv : v < 16) : (x >>> (nI v &&& 31) = 1) ↔ v = w := by
  rw [sg_eq h]
  exact iff_of_eq (sg_sh ⟨w, h.1⟩ ⟨v, hv⟩)
abbrev mA3 : List Nat := [32, 36, 37]
/-- narrowing a line's words to one, as the reference does -/
theorem alw_one {okm : Nat → Nat → Bool} {my my2 sd : Nat → Int32} {k u : Nat} (hu : u < 16) (h1 : my2 k = my k &&& (1 <<< (nI u &&& 31))) (h2 : ∀ j, ¬ j = k → my2 j = my j) {its i w : Nat} (hw : w < 16) : alw okm my2 sd its i w = one (alw okm my sd its) k u i w := by
  unfold alw one
  by_cases c : i = k
  · rw [if_pos c, c, h1, tb_and, tb_nI (by omega) w (by omega)]
    show (tb (my k) w && decide (w = u) && decide (sd w = nI its) && okm k w) = ((tb (my k) w && decide (sd w = nI its) && okm k w) && decide (w = u))
    cases tb (my k) w <;> cases decide (sd w = nI its) <;> cases okm k w <;> cases decide (w = u) <;> rfl
  · rw [if_neg c, h2 i c]
/-- the last loop: which word it is -/
theorem last_lp {x1 x2 : Int32} {k w : Nat} {s : SM} (hk : k < 9) (h : sg (mA s 32 k) w) : An (F_X12_mended_b251 x1 x2 (nI k) fu (nI 0) s) (fun q => q.1 = nI w ∧ q.2 = s) := by
  have hw := h.1
  refine lp_up (fun q v (_ : Unit) => F_X12_mended_b251 x1 x2 (nI k) q v s) w (fun _ _ => True) _ ?_ ?_ fu 0 () (by omega) (by unfold fu; omega) trivial
  · intro q v _ hv _ hK
    show An (F_X12_mended_b251 x1 x2 (nI k) (q + 1) (nI v) s) _
    rw [F_X12_mended_b251, agN (by omega) (by omega), Option.bind_some, if_neg (fun e => by have := (sg_at h (by omega)).mp e; omega), nm_at, nI_1]
    exact hK () trivial
  · intro q _ _
    show An (F_X12_mended_b251 x1 x2 (nI k) (q + 1) (nI w) s) _
    rw [F_X12_mended_b251, agN (by omega) (by omega), Option.bind_some, if_pos ((sg_at h hw).mpr rfl)]
    exact An_some ⟨rfl, rfl⟩
/-- what narrowing one line leaves: the first word that keeps the fewest -/
def nwP (W n : Nat) (aL : Nat → Nat) (okm : Nat → Nat → Bool) (pw : Nat → Nat) (k : Nat) (s z : SM) : Prop := Fr [] mA3 [] s z ∧ (∀ j, ¬ j = k → mA z 32 j = mA s 32 j) ∧ ∃ w, w < W ∧ tb (mA s 32 k) w = true ∧ mA z 32 k = mA s 32 k &&& (1 <<< (nI w &&& 31)) ∧ fa aL W n (fun t => one (alw okm (mA s 32) (mA s 31) t) k w) (cow pw) = fa aL W n (alw okm (mA s 32) (mA s 31)) (cow pw) ∧ ∀ v, v < w → tb (mA s 32 k) v = true → ¬ fa aL W n (fun t => one (alw okm (mA s 32) (mA s 31) t) k v) (cow pw) = fa aL W n (alw okm (mA s 32) (mA s 31)) (cow pw)
theorem narrow_t {W n f k : Nat} {aL : Nat → Nat} {okm : Nat → Nat → Bool} {pw : Nat → Nat} {s : SM} {x2 x3 : Int32} {K162 : Int32 → Int32 → SM → Option (Int32 × SM)} (hH : MH W n f aL okm pw s) (hk : k < n) (hfa : fa aL W n (alw okm (mA s 32) (mA s 31)) (cow pw) < 1000) {Q : Int32 × SM → Prop} (hK : ∀ z, nwP W n aL okm pw k s z → An (K162 (nI (fa aL W n (alw okm (mA s 32) (mA s 31)) (cow pw))) (nI (k + 1)) z) Q) : An (F_X12_mended_b183 (nI f) x2 x3 K162 fu (nI (fa aL W n (alw okm (mA s 32) (mA s 31)) (cow pw))) (nI k) (mA s 32 k) (nI 0) (nI 0) s) Q := by
  have h16 := hH.2.1
  have h8 := hH.2.2.2.1
  obtain ⟨its, u, hu, hal, hu2⟩ := fa_one (L := aL) (W := W) (n := n) (al := alw okm (mA s 32) (mA s 31)) (co := cow pw) hk (hH.2.2.2.2.2.1 k hk) hfa
  have htu : tb (mA s 32 k) u = true := by
    unfold alw at hal
    simp only [Bool.and_eq_true] at hal
    exact hal.1.1
  -- one word tried
  have step : ∀ q w z, w < W → Fr [] mA3 [] s z → (∀ j, ¬ j = k → mA z 32 j = mA s 32 j) → (∀ v, v < w → tb (mA s 32 k) v = true → ¬ fa aL W n (fun t => one (alw okm (mA s 32) (mA s 31) t) k v) (cow pw) = fa aL W n (alw okm (mA s 32) (mA s 31)) (cow pw)) → ((tb (mA s 32 k) w = true ∧ fa aL W n (fun t => one (alw okm (mA s 32) (mA s 31) t) k w) (cow pw) = fa aL W n (alw okm (mA s 32) (mA s 31)) (cow pw)) ∨ ∀ z2, Fr [] mA3 [] s z2 → (∀ j, ¬ j = k → mA z2 32 j = mA s 32 j) → An (F_X12_mended_b183 (nI f) x2 x3 K162 (q + 1) (nI (fa aL W n (alw okm (mA s 32) (mA s 31)) (cow pw))) (nI k) (mA s 32 k) (nI (w + 1)) (nI 0) z2) Q) → An (F_X12_mended_b183 (nI f) x2 x3 K162 (q + 2) (nI (fa aL W n (alw okm (mA s 32) (mA s 31)) (cow pw))) (nI k) (mA s 32 k) (nI w) (nI 0) z) Q := by
    intro q w z hw h1 h2 h3 h4
    rw [F_X12_mended_b183, if_pos (show nI 0 = 0 from rfl), asN _ (by omega) (by omega), Option.bind_some, nm_at]
    obtain ⟨z1, ez⟩ : ∃ z1, z1 = mAs z 32 (upd (mA z 32) k (mA s 32 k &&& (1 <<< (nI w &&& 31)))) := ⟨_, rfl⟩
    rw [← ez]
    have f1 : Fr [] mA3 [] s z1 := by rw [ez]; exact h1.a 32 _ (by decide)
    have k1 : mA z1 32 k = mA s 32 k &&& (1 <<< (nI w &&& 31)) := by rw [ez, q_aa, if_pos rfl, u_at, if_pos rfl]
    have o1 : ∀ j, ¬ j = k → mA z1 32 j = mA s 32 j := fun j hj => by rw [ez, q_aa, if_pos rfl, u_at, if_neg hj]; exact h2 j hj
    rw [agN (by omega) (by omega), Option.bind_some, k1]
    unfold F_X12_mended_b226 F_X12_mended_b227
    by_cases c : tb (mA s 32 k) w = true
    · rw [if_neg (fun e => by rw [(and_0 (by omega)).mp e] at c; cases c)]
      have hH1 := hH.fr f1
      obtain ⟨⟨r, z2⟩, e1, e2, e3⟩ := fewAll_t hH1
      simp only [] at e2 e3
      have e31 : mA z1 31 = mA s 31 := f1.2.1 31 (by decide)
      have efa : fa aL W n (alw okm (mA z1 32) (mA z1 31)) (cow pw) = fa aL W n (fun t => one (alw okm (mA s 32) (mA s 31) t) k w) (cow pw) := by
        rw [e31]
        exact fa_cg fun t j w2 _ _ hw2 => alw_one (by omega) k1 o1 (by omega)
      rw [efa] at e2
      have f2 : Fr [] mA3 [] s z2 := f1.tr (e3.wd (fun _ x => x) (by decide) (fun _ x => x))
      have k2 : mA z2 32 = mA z1 32 := e3.2.1 32 (by decide)
      rw [e1, Option.bind_some]
      have bd : fa aL W n (fun t => one (alw okm (mA s 32) (mA s 31) t) k w) (cow pw) ≤ 1000 := by unfold fa; split <;> omega
      by_cases d : fa aL W n (fun t => one (alw okm (mA s 32) (mA s 31) t) k w) (cow pw) = fa aL W n (alw okm (mA s 32) (mA s 31)) (cow pw)
      · rw [if_pos (show r = nI (fa aL W n (alw okm (mA s 32) (mA s 31)) (cow pw)) from by rw [e2, d]), nm_at, nm_at, nI_1, F_X12_mended_b183, if_neg (show ¬ (1 : Int32) = 0 from by decide), nm_at, nI_1]
        refine hK z2 ⟨f2, fun j hj => by rw [k2]; exact o1 j hj, w, hw, c, by rw [k2]; exact k1, d, h3⟩
      · rw [if_neg (show ¬ r = nI (fa aL W n (alw okm (mA s 32) (mA s 31)) (cow pw)) from by rw [e2, nI_eq (by omega) (by omega)]; exact d), nm_at, nm_at, nI_1]
        rcases h4 with h4 | h4
        · exact absurd h4.2 d
        · exact h4 z2 f2 fun j hj => by rw [k2]; exact o1 j hj
    · rw [if_pos ((and_0 (by omega)).mpr (by simpa using c)), nm_at, nm_at, nI_1]
      rcases h4 with h4 | h4
      · exact absurd h4.1 c
      · exact h4 z1 f1 o1
  -- the words in turn, up to u
  have main : ∀ g w z fl, u - w ≤ g → w ≤ u → g + 2 ≤ fl → Fr [] mA3 [] s z → (∀ j, ¬ j = k → mA z 32 j = mA s 32 j) → (∀ v, v < w → tb (mA s 32 k) v = true → ¬ fa aL W n (fun t => one (alw okm (mA s 32) (mA s 31) t) k v) (cow pw) = fa aL W n (alw okm (mA s 32) (mA s 31)) (cow pw)) → An (F_X12_mended_b183 (nI f) x2 x3 K162 fl (nI (fa aL W n (alw okm (mA s 32) (mA s 31)) (cow pw))) (nI k) (mA s 32 k) (nI w) (nI 0) z) Q := by
    intro g
    induction g with
    | zero =>
      intro w z fl h1 h2 h3 h4 h5 h6
      obtain ⟨q, rfl⟩ : ∃ q, fl = q + 2 := ⟨fl - 2, by omega⟩
      obtain rfl : w = u := by omega
      exact step q w z hu h4 h5 h6 (Or.inl ⟨htu, hu2⟩)
    | succ g ih =>
      intro w z fl h1 h2 h3 h4 h5 h6
      obtain ⟨q, rfl⟩ : ∃ q, fl = q + 2 := ⟨fl - 2, by omega⟩
      by_cases c : tb (mA s 32 k) w = true ∧ fa aL W n (fun t => one (alw okm (mA s 32) (mA s 31) t) k w) (cow pw) = fa aL W n (alw okm (mA s 32) (mA s 31)) (cow pw)
      · exact step q w z (by omega) h4 h5 h6 (Or.inl c)
      · have hwu : w < u := by
          rcases Nat.lt_or_ge w u with y | y
          · exact y
          · obtain rfl : w = u := by omega
            exact absurd ⟨htu, hu2⟩ c
        refine step q w z (by omega) h4 h5 h6 (Or.inr fun z2 g1 g2 => ih (w + 1) z2 (q + 1) (by omega) (by omega) (by omega) g1 g2 fun v hv hb => ?_)
        by_cases y : v = w
        · rw [y] at hb ⊢; exact fun e => c ⟨hb, e⟩
        · exact h6 v (by omega) hb
  exact main u 0 s fu (by omega) (by omega) (by unfold fu; omega) (Fr.rf s) (fun _ _ => rfl) fun v hv => by omega
