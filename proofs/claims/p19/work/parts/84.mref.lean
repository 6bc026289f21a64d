/-! ===== mended: the reference's row ===== -/
/-- the lines below j have their words -/
def nr (ok : Nat → Nat → Bool) (R : Nat → Nat) (j : Nat) : Nat → Nat → Bool := fun i w => if i < j then ok i w && decide (w = R i) else ok i w
theorem nr_sub {ok : Nat → Nat → Bool} {R : Nat → Nat} {j i w : Nat} (h : nr ok R j i w = true) : ok i w = true ∧ (i < j → w = R i) := by
  unfold nr at h
  by_cases c : i < j
  · rw [if_pos c] at h
    simp only [Bool.and_eq_true, decide_eq_true_eq] at h
    exact ⟨h.1, fun _ => h.2⟩
  · rw [if_neg c] at h
    exact ⟨h, fun q => absurd q c⟩
theorem one_sub {al : Nat → Nat → Bool} {k u i w : Nat} (h : one al k u i w = true) : al i w = true ∧ (i = k → w = u) := by
  unfold one at h
  by_cases c : i = k
  · rw [if_pos c] at h
    simp only [Bool.and_eq_true, decide_eq_true_eq] at h
    exact ⟨h.1, fun _ => h.2⟩
  · rw [if_neg c] at h
    exact ⟨h, fun q => absurd q c⟩
theorem VL_sub {L : Nat → Nat} {W n : Nat} {ok ok2 : Nat → Nat → Bool} {sd : Nat → Int32} {r : Nat → Nat} (h : VL L W n ok sd r) (e : ∀ i w, ok i w = true → ok2 i w = true) : VL L W n ok2 sd r := by
  intro l hl
  obtain ⟨its, h1, h2⟩ := h l hl
  exact ⟨its, h1, VS_ok h2 fun i _ _ => e i (r i)⟩
theorem VL_at {L : Nat → Nat} {W n : Nat} {ok : Nat → Nat → Bool} {sd : Nat → Int32} {r : Nat → Nat} (h : VL L W n ok sd r) {i : Nat} (hi : i < n) (hL : L i < 8) : r i < W ∧ ok i (r i) = true := by
  obtain ⟨its, -, h2⟩ := h (L i) hL
  exact ⟨(h2 i hi rfl).1, (h2 i hi rfl).2.1⟩
theorem nr_fa {L : Nat → Nat} {W n : Nat} {ok : Nat → Nat → Bool} {sd : Nat → Int32} {co : Nat → Nat → Nat} {R : Nat → Nat} (hL : ∀ i, i < n → L i < 8) (h1 : ∀ l, l < 8 → ¬ cl L l n = 1) (hG : ∀ i, i < n → GR L W n ok sd co R i) (hsd : ∀ w, w < W → Lb (sd w) 26) (hc : cost L n co R < 1000) (j : Nat) : fa L W n (als (nr ok R j) sd) co = cost L n co R := by
  have hV := gr_VL hG hsd
  refine Nat.le_antisymm ?_ ?_
  · refine fa_A (fun l hl => ?_) h1
    obtain ⟨its, a, b⟩ := hV l hl
    refine ⟨its, a, VS_ok b fun i _ _ ho => ?_⟩
    unfold nr
    by_cases c : i < j
    · rw [if_pos c, ho]; simp
    · rw [if_neg c]; exact ho
  · refine Nat.le_of_not_lt fun q => ?_
    obtain ⟨-, r, r1, r2⟩ := fa_B (W := W) (ok := nr ok R j) (sd := sd) (co := co) hL (by omega)
    have hr : VL L W n ok sd r := VL_sub r1 fun i w h => (nr_sub h).1
    have : cost L n co R ≤ cost L n co r := sm_mono (gr_opt hG hr)
    omega
/-- only the row's word keeps the fewest, of those up to it -/
theorem nr_one {L : Nat → Nat} {W n : Nat} {ok : Nat → Nat → Bool} {sd : Nat → Int32} {co : Nat → Nat → Nat} {R : Nat → Nat} (hL : ∀ i, i < n → L i < 8) (h1 : ∀ l, l < 8 → ¬ cl L l n = 1) (hG : ∀ i, i < n → GR L W n ok sd co R i) (hsd : ∀ w, w < W → Lb (sd w) 26) (hc : cost L n co R < 1000) {j : Nat} (hj : j < n) : fa L W n (als (one (nr ok R j) j (R j)) sd) co = cost L n co R ∧ ∀ w, w < R j → ¬ fa L W n (als (one (nr ok R j) j w) sd) co = cost L n co R := by
  constructor
  · rw [← nr_fa hL h1 hG hsd hc (j + 1)]
    refine fa_cg fun t i w _ _ _ => ?_
    have e : one (nr ok R j) j (R j) i w = nr ok R (j + 1) i w := by
      unfold one nr
      by_cases c : i = j
      · rw [if_pos c, if_neg (by omega), if_pos (by omega), c]
      · rw [if_neg c]
        by_cases d : i < j
        · rw [if_pos d, if_pos (by omega)]
        · rw [if_neg d, if_neg (by omega)]
    unfold als
    rw [e]
  · intro w hw e
    obtain ⟨-, r, r1, r2⟩ := fa_B (W := W) (ok := one (nr ok R j) j w) (sd := sd) (co := co) hL (by omega)
    have hr : VL L W n ok sd r := VL_sub r1 fun i v h => (nr_sub (one_sub h).1).1
    refine gr_lex hL hG hr (by omega) hj (fun i hi => ?_) (by rw [(one_sub (VL_at r1 hj (hL j hj)).2).2 rfl]; exact hw)
    exact (nr_sub (one_sub (VL_at r1 (by omega) (hL i (by omega))).2).1).2 hi
theorem mended_nar2 {W n f k : Nat} {aL : Nat → Nat} {okm ok : Nat → Nat → Bool} {pw R : Nat → Nat} {sd : Nat → Int32} {s : SM} (x2 : Int32) (hH : MH W n f aL okm pw s) (hk : k < n) (h1 : ∀ l, l < 8 → ¬ cl aL l n = 1) (hG : ∀ i, i < n → GR aL W n ok sd (cow pw) R i) (hsd : ∀ w, w < W → Lb (sd w) 26) (h31 : ∀ w, w < W → mA s 31 w = sd w) (hc : cost aL n (cow pw) R < 1000) : ∀ g j z fl, j + g = k + 1 → g < fl → Fr [] mA3 [] s z → (∀ i w, i < n → w < W → (tb (mA z 32 i) w && okm i w) = nr ok R j i w) → (∀ i, i < n → tb (mA z 32 i) (R i) = true) → (∀ i, i < j → sg (mA z 32 i) (R i)) → An (F_X12_mended_b162 (nI f) x2 (nI k) fl (nI (cost aL n (cow pw) R)) (nI j) z) (fun q => q.1 = nI (R k) ∧ Fr [] mA3 [] s q.2) := by
  have h16 := hH.2.1
  have h8 := hH.2.2.2.1
  have hL := hH.2.2.2.2.2.1
  intro g
  induction g with
  | zero =>
    intro j z fl hj hfl hz _ _ hs
    obtain ⟨q, rfl⟩ : ∃ q, fl = q + 1 := ⟨fl - 1, by omega⟩
    obtain rfl : j = k + 1 := by omega
    rw [F_X12_mended_b162, if_pos (nI_lt (by omega) (by omega)), if_pos (show (0 : Int32) ≤ nI k from nI_pos' (by omega)), nm_at]
    exact An_mono (last_lp (by omega) (hs k (by omega))) fun q hq => ⟨hq.1, by rw [hq.2]; exact hz⟩
  | succ g ih =>
    intro j z fl hj hfl hz hb ht hs
    have hjn : j < n := by omega
    obtain ⟨q, rfl⟩ : ∃ q, fl = q + 1 := ⟨fl - 1, by omega⟩
    have e31 : ∀ w, w < W → mA z 31 w = sd w := fun w hw => by rw [hz.2.1 31 (by decide)]; exact h31 w hw
    have hal : ∀ t i w, i < n → w < W → alw okm (mA z 32) (mA z 31) t i w = als (nr ok R j) sd t i w := by
      intro t i w hi hw
      unfold alw als
      rw [← hb i w hi hw, e31 w hw]
      cases tb (mA z 32 i) w <;> cases decide (sd w = nI t) <;> cases okm i w <;> rfl
    have efa : fa aL W n (alw okm (mA z 32) (mA z 31)) (cow pw) = cost aL n (cow pw) R := (fa_cg fun t i w _ hi hw => hal t i w hi hw).trans (nr_fa hL h1 hG hsd hc j)
    have eone : ∀ v, fa aL W n (fun t => one (alw okm (mA z 32) (mA z 31) t) j v) (cow pw) = fa aL W n (als (one (nr ok R j) j v) sd) (cow pw) := by
      intro v
      refine fa_cg fun t i w _ hi hw => ?_
      show one (alw okm (mA z 32) (mA z 31) t) j v i w = (one (nr ok R j) j v i w && decide (sd w = nI t))
      have e : alw okm (mA z 32) (mA z 31) t i w = (nr ok R j i w && decide (sd w = nI t)) := hal t i w hi hw
      unfold one
      by_cases c : i = j
      · rw [if_pos c, if_pos c, e]
        cases nr ok R j i w <;> cases decide (sd w = nI t) <;> cases decide (w = v) <;> rfl
      · rw [if_neg c, if_neg c, e]
    obtain ⟨n1, n2⟩ := nr_one hL h1 hG hsd hc hjn
    rw [F_X12_mended_b162, if_neg (nI_nlt (by omega) (by omega)), agN (by omega) (by omega), Option.bind_some, nm_at, nm_at, nm_at, ← efa]
    refine narrow_t (hH.fr hz) (by omega) (by omega) fun z2 hz2 => ?_
    obtain ⟨f1, o1, w, hw, hbw, e, ef, hfst⟩ := hz2
    rw [efa] at ef hfst ⊢
    rw [eone] at ef
    have ew : w = R j := by
      rcases Nat.lt_trichotomy w (R j) with y | y | y
      · exact absurd ef (n2 w y)
      · exact y
      · exact absurd ((eone (R j)).trans n1) (hfst (R j) y (ht j hjn))
    subst ew
    refine ih (j + 1) z2 q (by omega) (by omega) (hz.tr f1) (fun i w hi hw2 => ?_) (fun i hi => ?_) fun i hi => ?_
    · have e0 := hb i w hi hw2
      by_cases c : i = j
      · rw [c, e, tb_and, tb_nI (by omega) w (by omega)]
        rw [c] at e0
        unfold nr at e0 ⊢
        rw [if_neg (by omega)] at e0
        rw [if_pos (by omega), ← e0]
        cases tb (mA z 32 j) w <;> cases decide (w = R j) <;> cases okm j w <;> rfl
      · rw [o1 i c, e0]
        unfold nr
        by_cases d : i < j
        · rw [if_pos d, if_pos (by omega)]
        · rw [if_neg d, if_neg (by omega)]
    · by_cases c : i = j
      · rw [c, e, tb_and, hbw, tb_nI (by omega) (R j) (by omega)]; simp
      · rw [o1 i c]; exact ht i hi
    · by_cases c : i = j
      · rw [c, e]; exact sg_and (by omega) hbw
      · rw [o1 i c]; exact hs i (by omega)
/-- the words that may stand: those of the same meaning -/
theorem mbits {W n f : Nat} {aL : Nat → Nat} {okm : Nat → Nat → Bool} {pw : Nat → Nat} {s : SM} {x2 x3 : Int32} (hH : MH W n f aL okm pw s) {Q : Int32 × SM → Prop} (hend : ∀ q y, Fr [] mA3 [] s y → (∀ i w, i < n → w < W → tb (mA y 32 i) w = decide (mA s 9 (4 * w + 2) = mA s 9 (4 * pw i + 2))) → An (F_X12_mended_b41 (nI f) x2 x3 (q + 1) (nI n) y) Q) : An (F_X12_mended_b41 (nI f) x2 x3 fu (nI 0) s) Q := by
  have h13 := hH.1
  have h16 := hH.2.1
  have h25 := hH.2.2.1
  have h8 := hH.2.2.2.1
  refine lp_up (fun q v z => F_X12_mended_b41 (nI f) x2 x3 q v z) n (fun m z => Fr [] mA3 [] s z ∧ ∀ i w, i < m → w < W → tb (mA z 32 i) w = decide (mA s 9 (4 * w + 2) = mA s 9 (4 * pw i + 2))) _ ?_ ?_ fu 0 s (by omega) (by unfold fu; omega) ⟨Fr.rf s, fun i w hi => by omega⟩
  · intro q m y hm ⟨hy, hyb⟩ hK
    have e25 : mI y 25 = nI n := (hy.1 25 (by simp)).trans h25
    show An (F_X12_mended_b41 (nI f) x2 x3 (q + 1) (nI m) y) _
    rw [F_X12_mended_b41, e25, if_neg (nI_ge hm (by omega)), asN _ (by omega) (by omega), Option.bind_some, nm_at, nm_at]
    refine lp_up (fun q2 v z => F_X12_mended_b61 (nI f) x2 x3 (F_X12_mended_b41 (nI f) x2 x3 q) q2 (nI m) v z) W (fun w z => Fr [] mA3 [] s z ∧ (∀ i, ¬ i = m → mA z 32 i = mA y 32 i) ∧ ∀ b, b < 16 → tb (mA z 32 m) b = (decide (b < w) && decide (mA s 9 (4 * b + 2) = mA s 9 (4 * pw m + 2)))) _ ?_ ?_ fu 0 _ (by omega) (by unfold fu; omega) ⟨hy.a 32 _ (by decide), fun i hi => by rw [q_aa, if_pos rfl, u_at, if_neg hi], fun b _ => by rw [q_aa, if_pos rfl, u_at, if_pos rfl, tb_0]; simp⟩
    · intro q2 w z hw ⟨hz, ho, hb⟩ hK2
      have z13 : mI z 13 = nI W := (hz.1 13 (by simp)).trans h13
      have hp1 := (hH.2.2.2.2.2.2 m hm).2
      have e21 : mA z 21 (1 + 3 * m) = nI (pw m) := by rw [hz.2.1 21 (by decide)]; exact (hH.2.2.2.2.2.2 m hm).1
      have e9 : mA z 9 = mA s 9 := hz.2.1 9 (by decide)
      have ix : ∀ v : Nat, (4 : Int32) * nI v + 2 = nI (4 * v + 2) := fun v => by rw [show (4 : Int32) * nI v = nI (4 * v) from nI_mul 4 v]; exact nI_add _ 2
      show An (F_X12_mended_b61 (nI f) x2 x3 (F_X12_mended_b41 (nI f) x2 x3 q) (q2 + 1) (nI m) (nI w) z) _
      rw [F_X12_mended_b61, z13, if_neg (nI_ge hw (by omega)), agN (by omega) (by omega), Option.bind_some, ix w, agN (by omega) (by omega), Option.bind_some, show (1 : Int32) + 3 * nI m = nI (1 + 3 * m) from by rw [show (3 : Int32) * nI m = nI (3 * m) from nI_mul 3 m]; exact nI_add 1 _, agN (by omega) (by omega), Option.bind_some, e21, ix (pw m), agN (by omega) (by omega), Option.bind_some, e9]
      have k120 : ∀ b0 : Int32, (∀ b, b < 16 → tb b0 b = (decide (b = w) && decide (mA s 9 (4 * w + 2) = mA s 9 (4 * pw m + 2)))) → An (F_X12_mended_b120 (nI f) x2 x3 (F_X12_mended_b41 (nI f) x2 x3 q) (F_X12_mended_b61 (nI f) x2 x3 (F_X12_mended_b41 (nI f) x2 x3 q) q2) (nI m) (nI w) z (nI m) (mA z 32 m) b0) Q := by
        intro b0 hb0
        unfold F_X12_mended_b120
        rw [asN _ (by omega) (by omega), Option.bind_some, nm_at, nm_at, nI_1]
        refine hK2 _ ⟨hz.a 32 _ (by decide), fun i hi => by rw [q_aa, if_pos rfl, u_at, if_neg hi]; exact ho i hi, fun b hb2 => ?_⟩
        rw [q_aa, if_pos rfl, u_at, if_pos rfl, tb_or, hb b hb2, hb0 b hb2]
        by_cases c : b = w
        · rw [c]; simp
        · rw [show decide (b < w + 1) = decide (b < w) from decide_eq_decide.mpr (by omega)]
          simp [c]
      by_cases c : mA s 9 (4 * w + 2) = mA s 9 (4 * pw m + 2)
      · rw [if_pos c]
        exact k120 _ fun b hb2 => by rw [tb_nI (by omega) b (by omega)]; simp [c]
      · rw [if_neg c]
        exact k120 _ fun b hb2 => by rw [tb_0]; simp [c]
    · intro q2 z ⟨hz, ho, hb⟩
      have z13 : mI z 13 = nI W := (hz.1 13 (by simp)).trans h13
      show An (F_X12_mended_b61 (nI f) x2 x3 (F_X12_mended_b41 (nI f) x2 x3 q) (q2 + 1) (nI m) (nI W) z) _
      rw [F_X12_mended_b61, z13, if_pos (nI_le (Nat.le_refl W) (by omega)), nm_at, nI_1]
      refine hK _ ⟨hz, fun i w hi hw => ?_⟩
      by_cases c : i = m
      · rw [c, hb w (by omega)]; simp [hw]
      · rw [ho i c]; exact hyb i w (by omega) hw
  · intro q y ⟨hy, hyb⟩
    exact hend q y hy hyb
theorem PRS_cl {L : Nat → Nat} {n : Nat} (h : PRS L n) : ∀ l, ¬ cl L l n = 1 := by
  intro l e
  obtain ⟨a, a1, a2, -⟩ := near (L := L) (l := l) n fun q => by rw [(cl_0 n).mpr q] at e; omega
  obtain ⟨j, j1, j2, j3⟩ := h.2 a a1
  have : 1 < cl L l n := by
    rcases Nat.lt_or_ge j a with q | q
    · exact cl_2 q (by rw [j3, a2]) a2 n a1
    · exact cl_2 (by omega) a2 (by rw [j3, a2]) n j1
  omega
theorem cl_PRS {L : Nat → Nat} {n : Nat} (hL : ∀ i, i < n → L i < 8) (hn : 0 < n) (h : ∀ l, l < 8 → ¬ cl L l n = 1) : PRS L n := by
  refine ⟨hn, fun i hi => ?_⟩
  have h0 : ¬ cl L (L i) n = 0 := fun e => (cl_0 n).mp e i hi rfl
  have h1 := h (L i) (hL i hi)
  obtain ⟨a, b, q1, q2, q3, q4⟩ := cl_1 n (show 1 < cl L (L i) n from by omega)
  by_cases c : a = i
  · exact ⟨b, q2, by omega, q4⟩
  · exact ⟨a, by omega, c, q3⟩
/-- the reference, where there is a row -/
theorem mref_g {W n f : Nat} {aL : Nat → Nat} {okm ok : Nat → Nat → Bool} {pw R : Nat → Nat} {sd : Nat → Int32} {s : SM} (x2 : Int32) {x3 : Int32} (hH : MH W n f aL okm pw s) (hok : ∀ i w, i < n → w < W → ok i w = (decide (mA s 9 (4 * w + 2) = mA s 9 (4 * pw i + 2)) && okm i w)) (hp : PRS aL n) (hG : ∀ i, i < n → GR aL W n ok sd (cow pw) R i) (hsd : ∀ w, w < W → Lb (sd w) 26) (h31 : ∀ w, w < W → mA s 31 w = sd w) (h3 : x3 = -1 ∨ ∃ i, i < n ∧ x3 = nI i) : An (F_X12_mended_b41 (nI f) x2 x3 fu (nI 0) s) (fun q => ((x3 = -1 ∧ q.1 = nI (cost aL n (cow pw) R)) ∨ ∃ i, i < n ∧ x3 = nI i ∧ q.1 = nI (R i)) ∧ Fr [] mA3 [] s q.2) := by
  have h16 := hH.2.1
  have h25 := hH.2.2.1
  have h8 := hH.2.2.2.1
  have hL := hH.2.2.2.2.2.1
  have h1 : ∀ l, l < 8 → ¬ cl aL l n = 1 := fun l _ => PRS_cl hp l
  have hc : cost aL n (cow pw) R < 1000 := by
    rw [cost_ts n hL]
    have e : ∀ m, sm (fun i => cow pw i (R i)) m ≤ m := by
      intro m
      induction m with
      | zero => exact Nat.le_refl _
      | succ m ih => rw [sm]; have := cow_le (pw := pw) m (R m); omega
    have := e n
    omega
  refine mbits hH fun q y hy hyb => ?_
  have e25 : mI y 25 = nI n := (hy.1 25 (by simp)).trans h25
  obtain ⟨⟨r, y2⟩, e1, e2, e3⟩ := fewAll_t (hH.fr hy)
  simp only [] at e2 e3
  have hy2 : Fr [] mA3 [] s y2 := hy.tr (e3.wd (fun _ x => x) (by decide) (fun _ x => x))
  have y25 : mI y2 25 = nI n := (hy2.1 25 (by simp)).trans h25
  have hb0 : ∀ i w, i < n → w < W → (tb (mA y 32 i) w && okm i w) = nr ok R 0 i w := by
    intro i w hi hw
    unfold nr
    rw [if_neg (by omega), hok i w hi hw, hyb i w hi hw]
  have efa : fa aL W n (alw okm (mA y 32) (mA y 31)) (cow pw) = cost aL n (cow pw) R := by
    refine (fa_cg fun t i w _ hi hw => ?_).trans (nr_fa hL h1 hG hsd hc 0)
    unfold alw als
    rw [← hb0 i w hi hw, hy.2.1 31 (by decide), h31 w hw]
    cases tb (mA y 32 i) w <;> cases decide (sd w = nI t) <;> cases okm i w <;> rfl
  rw [efa] at e2
  rw [F_X12_mended_b41, e25, if_pos (nI_le (Nat.le_refl n) (by omega)), e1, Option.bind_some, nm_at, e2]
  show An (if mI y2 25 = 0 then _ else _) _
  have hn := hp.1
  rw [y25, if_neg (show ¬ nI n = 0 from by rw [show (0 : Int32) = nI 0 from rfl, nI_eq (by omega) (by omega)]; omega), if_pos (show nI (cost aL n (cow pw) R) < 1000 from nI_lt (b := 1000) hc (by omega)), nm_at]
  rcases h3 with h3 | ⟨k, hk, h3⟩
  · obtain ⟨u, eu⟩ : ∃ u, fu = u + 1 := ⟨fu - 1, by unfold fu; omega⟩
    rw [eu, F_X12_mended_b162, if_pos (show x3 < (0 : Int32) from by rw [h3]; decide), if_neg (show ¬ (0 : Int32) ≤ x3 from by rw [h3]; decide)]
    exact An_some ⟨Or.inl ⟨h3, rfl⟩, hy2⟩
  · rw [h3]
    have e32 : mA y2 32 = mA y 32 := e3.2.1 32 (by decide)
    refine An_mono (mended_nar2 x2 hH hk h1 hG hsd h31 hc (k + 1) 0 y2 fu (by omega) (by unfold fu; omega) hy2 (by rw [e32]; exact hb0) (fun i hi => ?_) fun i hi => by omega) fun q hq => ⟨Or.inr ⟨k, hk, rfl, hq.1⟩, hq.2⟩
    have ho := (ck_lt (hG i hi).2.1).1
    rw [hok i (R i) hi (hG i hi).1, Bool.and_eq_true] at ho
    rw [e32, hyb i (R i) hi (hG i hi).1]
    exact ho.1
/-- the reference, where there is none -/
theorem mref_n {W n f : Nat} {aL : Nat → Nat} {okm ok : Nat → Nat → Bool} {pw : Nat → Nat} {sd : Nat → Int32} {s : SM} (x2 : Int32) {x3 : Int32} (hH : MH W n f aL okm pw s) (hok : ∀ i w, i < n → w < W → ok i w = (decide (mA s 9 (4 * w + 2) = mA s 9 (4 * pw i + 2)) && okm i w)) (hN : ¬ PRS aL n ∨ ∀ r, ¬ VL aL W n ok sd r) (h31 : ∀ w, w < W → mA s 31 w = sd w) : An (F_X12_mended_b41 (nI f) x2 x3 fu (nI 0) s) (fun q => q.1 = -9 ∧ Fr [] mA3 [] s q.2) := by
  have h25 := hH.2.2.1
  have h8 := hH.2.2.2.1
  have hL := hH.2.2.2.2.2.1
  refine mbits hH fun q y hy hyb => ?_
  have e25 : mI y 25 = nI n := (hy.1 25 (by simp)).trans h25
  obtain ⟨⟨r, y2⟩, e1, e2, e3⟩ := fewAll_t (hH.fr hy)
  simp only [] at e2 e3
  have hy2 : Fr [] mA3 [] s y2 := hy.tr (e3.wd (fun _ x => x) (by decide) (fun _ x => x))
  have y25 : mI y2 25 = nI n := (hy2.1 25 (by simp)).trans h25
  have efa : fa aL W n (alw okm (mA y 32) (mA y 31)) (cow pw) = fa aL W n (als ok sd) (cow pw) := by
    refine fa_cg fun t i w _ hi hw => ?_
    unfold alw als
    rw [hok i w hi hw, hyb i w hi hw, hy.2.1 31 (by decide), h31 w hw]
    cases decide (mA s 9 (4 * w + 2) = mA s 9 (4 * pw i + 2)) <;> cases decide (sd w = nI t) <;> cases okm i w <;> rfl
  rw [efa] at e2
  have bd : fa aL W n (als ok sd) (cow pw) ≤ 1000 := by unfold fa; split <;> omega
  rw [F_X12_mended_b41, e25, if_pos (nI_le (Nat.le_refl n) (by omega)), e1, Option.bind_some, nm_at, e2]
  show An (if mI y2 25 = 0 then _ else _) _
  by_cases c : n = 0
  · rw [y25, if_pos (show nI n = 0 from by rw [c]; rfl)]
    exact An_some ⟨rfl, hy2⟩
  · have hge : ¬ fa aL W n (als ok sd) (cow pw) < 1000 := by
      intro q
      obtain ⟨g1, r, g2, -⟩ := fa_B hL q
      rcases hN with z | z
      · exact z (cl_PRS hL (by omega) g1)
      · exact z r g2
    rw [y25, if_neg (show ¬ nI n = 0 from by rw [show (0 : Int32) = nI 0 from rfl, nI_eq (by omega) (by omega)]; exact c), if_neg (show ¬ nI (fa aL W n (als ok sd) (cow pw)) < 1000 from nI_nlt (b := 1000) (by omega) (by omega))]
    exact An_some ⟨rfl, hy2⟩
