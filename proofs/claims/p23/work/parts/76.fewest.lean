/-! ===== the reference counts the fewest ===== -/
def MH (W n f : Nat) (aL : Nat → Nat) (okm : Nat → Nat → Bool) (pw : Nat → Nat) (s0 : SM) : Prop :=
  mI s0 13 = nI W ∧ W ≤ 16 ∧ mI s0 25 = nI n ∧ n ≤ 8 ∧ (∀ s, Fr [] [32, 36, 37] [] s0 s → (∀ i, i < n → F_X12_letterOf s (nI f) (nI i) = some (nI (aL i))) ∧ ∀ i w, i < n → w < W → F_X12_isMetre s (nI f) (nI i) (nI w) = some (if okm i w = true then nI 1 else nI 0)) ∧ (∀ i, i < n → aL i < 8) ∧ ∀ i, i < n → mA s0 21 (1 + 3 * i) = nI (pw i) ∧ pw i < 16
theorem MH.fr {W n f : Nat} {aL : Nat → Nat} {okm : Nat → Nat → Bool} {pw : Nat → Nat} {s0 s : SM} (h : MH W n f aL okm pw s0) (hf : Fr [] [32, 36, 37] [] s0 s) : MH W n f aL okm pw s := by
  obtain ⟨h1, h2, h3, h4, h5, h6, h7⟩ := h
  refine ⟨(hf.1 13 (by simp)).trans h1, h2, (hf.1 25 (by simp)).trans h3, h4, fun s' hs' => h5 s' (hf.tr hs'), h6, ?_⟩
  rw [hf.2.1 21 (by decide)]
  exact h7
/-- the words that a line may have, by a sound -/
def alw (okm : Nat → Nat → Bool) (my sd : Nat → Int32) (its i w : Nat) : Bool := tb (my i) w && decide (sd w = nI its) && okm i w
def cow (pw : Nat → Nat) (i w : Nat) : Nat := if w = pw i then 0 else 1
abbrev lA : List Nat := [36, 37]
theorem dp_bd {L : Nat → Nat} {l W : Nat} {al : Nat → Nat → Bool} {co : Nat → Nat → Nat} : ∀ i, (dp L l W al co i).1 ≤ i ∧ ∀ w, (dp L l W al co i).2 w ≤ 1000 := by
  intro i
  induction i with
  | zero => exact ⟨Nat.le_refl _, fun w => Nat.zero_le _⟩
  | succ i ih =>
    rw [dp]
    by_cases c : L i = l
    · rw [if_pos c]
      exact ⟨by show _ + 1 ≤ _; omega, fun w => nx_le⟩
    · rw [if_neg c]
      exact ⟨by omega, ih.2⟩
/-- one word of one line: the least over the words ahead -/
theorem few_v {x1 x2 x3 : Int32} {K32 : Int32 → Int32 → SM → Option (Int32 × SM)} {K55 : Int32 → Int32 → Int32 → SM → Option (Int32 × SM)} {W n i w p cc : Nat} {le : Nat → Nat} {y : SM} (h13 : mI y 13 = nI W) (h16 : W ≤ 16) (hi : i < 8) (hn : n < 100) (hw : w < W) (hle : ∀ v, v < W → mA y 36 v = nI (le v) ∧ le v ≤ 1000) (h37 : mA y 37 w = nI 1000) (h21 : mA y 21 (1 + 3 * i) = nI p) (hp : p < 16) (hcc : cc = if w = p then 0 else 1) {Q : Int32 × SM → Prop} (hk : ∀ z, Fr [] [37] [] y z → (∀ u, ¬ u = w → mA z 37 u = mA y 37 u) → mA z 37 w = nI (mv (nxg n le cc w) W) → An (K55 (nI n) (nI i) (nI (w + 1)) z) Q) : An (F_X12_fewestOf_b123 x1 x2 x3 K32 K55 fu (nI n) (nI i) (nI w) (nI 1) (nI 0) y) Q := by
  refine lp_up (fun q v z => F_X12_fewestOf_b123 x1 x2 x3 K32 K55 q (nI n) (nI i) (nI w) (nI 1) v z) W (fun v z => Fr [] [37] [] y z ∧ (∀ u, ¬ u = w → mA z 37 u = mA y 37 u) ∧ mA z 37 w = nI (mv (nxg n le cc w) v)) _ ?_ ?_ fu 0 y (by omega) (by unfold fu; omega) ⟨Fr.rf y, fun _ _ => rfl, h37⟩
  · intro q v z hv ⟨h1, h2, h3⟩ hK
    have z13 : mI z 13 = nI W := (h1.1 13 (by simp)).trans h13
    have e36 : mA z 36 v = nI (le v) := by rw [h1.2.1 36 (by decide)]; exact (hle v hv).1
    have e21 : mA z 21 (1 + 3 * i) = nI p := by rw [h1.2.1 21 (by decide)]; exact h21
    have hl := (hle v hv).2
    have hm := mv_le (nxg n le cc w) v
    -- what the step leaves
    have k237 : ∀ m : Nat, m = mv (nxg n le cc w) (v + 1) → An (F_X12_fewestOf_b237 x1 x2 x3 K32 K55 (F_X12_fewestOf_b123 x1 x2 x3 K32 K55 q) (nI n) (nI i) (nI w) (nI 1) (nI v) z (nI w) (nI m)) Q := by
      intro m em
      unfold F_X12_fewestOf_b237
      rw [asN _ (by omega) (by omega), Option.bind_some, nm_at, nm_at, nI_1]
      refine hK _ ⟨h1.a 37 _ (by decide), fun u hu => ?_, ?_⟩
      · rw [q_aa, if_pos rfl, u_at, if_neg hu]; exact h2 u hu
      · rw [q_aa, if_pos rfl, u_at, if_pos rfl, em]
    have k169 : ∀ k : Nat, (k = 1 ∧ (if n = 0 then decide (v = w) else decide (¬ v = w)) = true) ∨ (k = 0 ∧ ¬ (if n = 0 then decide (v = w) else decide (¬ v = w)) = true) → An (F_X12_fewestOf_b169 x1 x2 x3 K32 K55 (F_X12_fewestOf_b123 x1 x2 x3 K32 K55 q) (nI n) (nI i) (nI w) (nI 1) (nI v) z (nI k)) Q := by
      intro k hk2
      unfold F_X12_fewestOf_b169
      rw [nm_at, agN (by omega) (by omega), Option.bind_some, e36, show (1 : Int32) + 3 * nI i = nI (1 + 3 * i) from by rw [show (3 : Int32) * nI i = nI (3 * i) from nI_mul 3 i]; exact nI_add 1 _, agN (by omega) (by omega), Option.bind_some, e21]
      have k199 : ∀ c : Nat, c = cc → An (F_X12_fewestOf_b199 x1 x2 x3 K32 K55 (F_X12_fewestOf_b123 x1 x2 x3 K32 K55 q) (nI n) (nI i) (nI w) (nI 1) (nI v) (nI k) z (nI (le v)) (nI c)) Q := by
        intro c ec
        have hc : c ≤ 1 := by rw [ec, hcc]; split <;> omega
        unfold F_X12_fewestOf_b199 F_X12_fewestOf_b230
        rw [nm_at, nI_add, agN (by omega) (by omega), Option.bind_some, Option.bind_some, h3]
        rcases hk2 with ⟨rfl, g⟩ | ⟨rfl, g⟩
        · rw [if_neg (show ¬ nI 1 = 0 from by decide)]
          have en : nxg n le cc w v = le v + c := by unfold nxg; rw [if_pos g, ec]
          by_cases d : mv (nxg n le cc w) v ≤ le v + c
          · rw [if_pos (nI_le d (by omega))]
            refine k237 _ ?_
            rw [mv, en, if_neg (by omega)]
          · rw [if_neg (nI_ge (by omega) (by omega))]
            refine k237 _ ?_
            rw [mv, en, if_pos (by omega)]
        · rw [if_pos (show nI 0 = 0 from rfl)]
          have en : nxg n le cc w v = 1000 := by unfold nxg; rw [if_neg g]
          refine k237 _ ?_
          rw [mv, en, if_neg (by omega)]
      by_cases c : w = p
      · rw [if_pos (by rw [c])]
        exact k199 0 (by rw [hcc, if_pos c])
      · rw [if_neg (by rw [nI_eq (by omega) (by omega)]; exact c)]
        exact k199 1 (by rw [hcc, if_neg c])
    show An (F_X12_fewestOf_b123 x1 x2 x3 K32 K55 (q + 1) (nI n) (nI i) (nI w) (nI 1) (nI v) z) Q
    rw [F_X12_fewestOf_b123, z13, if_neg (nI_ge hv (by omega)), if_neg (show ¬ nI 1 = 0 from by decide)]
    by_cases g0 : n = 0
    · rw [if_pos (show nI n = 0 from by rw [g0]; rfl)]
      by_cases g : v = w
      · rw [if_pos (by rw [g])]
        exact k169 1 (Or.inl ⟨rfl, by rw [if_pos g0]; simp [g]⟩)
      · rw [if_neg (by rw [nI_eq (by omega) (by omega)]; exact g)]
        exact k169 0 (Or.inr ⟨rfl, by rw [if_pos g0]; simp [g]⟩)
    · rw [if_neg (show ¬ nI n = 0 from by rw [show (0 : Int32) = nI 0 from rfl, nI_eq (by omega) (by omega)]; exact g0)]
      by_cases g : v = w
      · rw [if_pos (by rw [g])]
        exact k169 0 (Or.inr ⟨rfl, by rw [if_neg g0]; simp [g]⟩)
      · rw [if_neg (by rw [nI_eq (by omega) (by omega)]; exact g)]
        exact k169 1 (Or.inl ⟨rfl, by rw [if_neg g0]; simp [g]⟩)
  · intro q z ⟨h1, h2, h3⟩
    have z13 : mI z 13 = nI W := (h1.1 13 (by simp)).trans h13
    show An (F_X12_fewestOf_b123 x1 x2 x3 K32 K55 (q + 1) (nI n) (nI i) (nI w) (nI 1) (nI W) z) Q
    rw [F_X12_fewestOf_b123, z13, if_pos (nI_le (Nat.le_refl W) (by omega))]
    unfold F_X12_fewestOf_b244
    rw [nm_at, nI_1]
    exact hk z h1 h2 h3
/-- one line: all its words -/
theorem few_w {W n f i c l its : Nat} {aL : Nat → Nat} {okm : Nat → Nat → Bool} {pw : Nat → Nat} {le : Nat → Nat} {y : SM} {K32 : Int32 → Int32 → SM → Option (Int32 × SM)} (hH : MH W n f aL okm pw y) (hi : i < n) (hc : c < 100) (hits : its < 26) (hle : ∀ v, v < W → mA y 36 v = nI (le v) ∧ le v ≤ 1000) {Q : Int32 × SM → Prop} (hk : ∀ z, Fr [] lA [] y z → (∀ w, w < W → mA z 36 w = nI (nx W c le (alw okm (mA y 32) (mA y 31) its i w) (cow pw i w) w)) → An (K32 (nI (c + 1)) (nI (i + 1)) z) Q) : An (F_X12_fewestOf_b55 (nI f) (nI l) (nI its) K32 fu (nI c) (nI i) (nI 0) y) Q := by
  have h13 := hH.1
  have h16 := hH.2.1
  have h8 := hH.2.2.2.1
  obtain ⟨p1, p2⟩ := hH.2.2.2.2.2.2 i hi
  refine lp_up (fun q v z => F_X12_fewestOf_b55 (nI f) (nI l) (nI its) K32 q (nI c) (nI i) v z) W (fun w z => Fr [] [37] [] y z ∧ ∀ u, u < w → mA z 37 u = nI (nx W c le (alw okm (mA y 32) (mA y 31) its i u) (cow pw i u) u)) _ ?_ ?_ fu 0 y (by omega) (by unfold fu; omega) ⟨Fr.rf y, fun u hu => by omega⟩
  · intro q w z hw ⟨h1, h2⟩ hK
    have z13 : mI z 13 = nI W := (h1.1 13 (by simp)).trans h13
    show An (F_X12_fewestOf_b55 (nI f) (nI l) (nI its) K32 (q + 1) (nI c) (nI i) (nI w) z) Q
    rw [F_X12_fewestOf_b55, z13, if_neg (nI_ge hw (by omega)), asN _ (by omega) (by omega), Option.bind_some, nm_at]
    obtain ⟨z1, ez⟩ : ∃ z1, z1 = mAs z 37 (upd (mA z 37) w (nI 1000)) := ⟨_, rfl⟩
    rw [show (1000 : Int32) = nI 1000 from rfl, ← ez]
    have f1 : Fr [] [37] [] y z1 := by rw [ez]; exact h1.a 37 _ (by decide)
    have g37 : mA z1 37 w = nI 1000 := by rw [ez, q_aa, if_pos rfl, u_at, if_pos rfl]
    have o37 : ∀ u, ¬ u = w → mA z1 37 u = mA z 37 u := fun u hu => by rw [ez, q_aa, if_pos rfl, u_at, if_neg hu]
    have w13 : mI z1 13 = nI W := (f1.1 13 (by simp)).trans h13
    have e32 : mA z1 32 = mA y 32 := f1.2.1 32 (by decide)
    have e31 : mA z1 31 = mA y 31 := f1.2.1 31 (by decide)
    have hHz := hH.fr (f1.wd (fun _ x => x) (by decide) (fun _ x => x))
    have emet := (hHz.2.2.2.2.1 z1 (Fr.rf z1)).2 i w hi hw
    -- not allowed: 1000 stays
    have no : alw okm (mA y 32) (mA y 31) its i w = false → An (F_X12_fewestOf_b117 (nI f) (nI l) (nI its) K32 (F_X12_fewestOf_b55 (nI f) (nI l) (nI its) K32 q) (nI c) (nI i) (nI w) z1) Q := by
      intro ea
      unfold F_X12_fewestOf_b117 F_X12_fewestOf_b118
      rw [nm_at, nm_at]
      obtain ⟨q1, eq⟩ : ∃ q1, fu = q1 + 1 := ⟨fu - 1, by unfold fu; omega⟩
      rw [eq, F_X12_fewestOf_b123, w13, if_neg (show ¬ nI W ≤ 0 from nI_ge (a := 0) (by omega) (by omega)), if_pos rfl]
      unfold F_X12_fewestOf_b244
      rw [nm_at, nI_1]
      refine hK z1 ⟨f1, fun u hu => ?_⟩
      by_cases g : u = w
      · rw [g, g37, ea]; rfl
      · rw [o37 u g]; exact h2 u (by omega)
    have yes : alw okm (mA y 32) (mA y 31) its i w = true → An (F_X12_fewestOf_b118 (nI f) (nI l) (nI its) K32 (F_X12_fewestOf_b55 (nI f) (nI l) (nI its) K32 q) (nI c) (nI i) (nI w) z1 1) Q := by
      intro ea
      unfold F_X12_fewestOf_b118
      rw [nm_at, nm_at]
      refine few_v (le := le) (p := pw i) (cc := cow pw i w) w13 h16 (by omega) hc hw (fun v hv => by rw [f1.2.1 36 (by decide)]; exact hle v hv) g37 (by rw [f1.2.1 21 (by decide)]; exact p1) p2 rfl fun z2 g1 g2 g3 => ?_
      refine hK z2 ⟨f1.tr g1, fun u hu => ?_⟩
      by_cases g : u = w
      · rw [g, g3, ea]; rfl
      · rw [g2 u g, o37 u g]; exact h2 u (by omega)
    rw [agN (by omega) (by omega), Option.bind_some, e32]
    unfold alw at no yes
    by_cases b1 : tb (mA y 32 i) w = true
    · rw [if_pos (show (mA y 32 i >>> (nI w &&& 31)) &&& 1 = 1 from by rw [tb_sh1 _ (by omega)]; exact b1), agN (by omega) (by omega), Option.bind_some, e31]
      by_cases b2 : mA y 31 w = nI its
      · rw [if_pos b2, emet, Option.bind_some]
        by_cases b3 : okm i w = true
        · rw [if_pos b3, if_neg (show ¬ nI 1 = 0 from by decide)]
          exact yes (by simp [b1, b2, b3])
        · rw [if_neg b3, if_pos (show nI 0 = 0 from rfl)]
          exact no (by simp [b3])
      · rw [if_neg b2]
        exact no (by simp [b2])
    · rw [if_neg (show ¬ (mA y 32 i >>> (nI w &&& 31)) &&& 1 = 1 from by rw [tb_sh1 _ (by omega)]; exact b1)]
      exact no (by simp [b1])
  · intro q z ⟨h1, h2⟩
    have z13 : mI z 13 = nI W := (h1.1 13 (by simp)).trans h13
    show An (F_X12_fewestOf_b55 (nI f) (nI l) (nI its) K32 (q + 1) (nI c) (nI i) (nI W) z) Q
    rw [F_X12_fewestOf_b55, z13, if_pos (nI_le (Nat.le_refl W) (by omega)), nm_at]
    refine lp_up (fun q v z2 => F_X12_fewestOf_b253 (nI f) (nI l) (nI its) K32 q (nI c) (nI i) v z2) W (fun w z2 => Fr [] [36] [] z z2 ∧ ∀ u, u < w → mA z2 36 u = mA z 37 u) _ ?_ ?_ fu 0 z (by omega) (by unfold fu; omega) ⟨Fr.rf z, fun u hu => by omega⟩
    · intro q2 w z2 hw ⟨g1, g2⟩ hK2
      have y13 : mI z2 13 = nI W := (g1.1 13 (by simp)).trans z13
      show An (F_X12_fewestOf_b253 (nI f) (nI l) (nI its) K32 (q2 + 1) (nI c) (nI i) (nI w) z2) Q
      rw [F_X12_fewestOf_b253, y13, if_neg (nI_ge hw (by omega)), agN (by omega) (by omega), Option.bind_some, asN _ (by omega) (by omega), Option.bind_some, nm_at, nm_at, nI_1]
      refine hK2 _ ⟨g1.a 36 _ (by decide), fun u hu => ?_⟩
      rw [q_aa, if_pos rfl, u_at]
      by_cases g : u = w
      · rw [if_pos g, g1.2.1 37 (by decide), g]
      · rw [if_neg g]; exact g2 u (by omega)
    · intro q2 z2 ⟨g1, g2⟩
      have y13 : mI z2 13 = nI W := (g1.1 13 (by simp)).trans z13
      show An (F_X12_fewestOf_b253 (nI f) (nI l) (nI its) K32 (q2 + 1) (nI c) (nI i) (nI W) z2) Q
      rw [F_X12_fewestOf_b253, y13, if_pos (nI_le (Nat.le_refl W) (by omega)), nm_at, nI_1]
      unfold F_X12_fewestOf_b285
      rw [nm_at, nI_1]
      exact hk z2 ((h1.wd (fun _ x => x) (by decide) (fun _ x => x)).tr (g1.wd (fun _ x => x) (by decide) (fun _ x => x))) fun w hw => (g2 w hw).trans (h2 w hw)
def foP (W n : Nat) (aL : Nat → Nat) (okm : Nat → Nat → Bool) (pw : Nat → Nat) (l its : Nat) (s : SM) (q : Int32 × SM) : Prop := q.1 = nI (fo aL W n (alw okm (mA s 32) (mA s 31) its) (cow pw) l) ∧ Fr [] lA [] s q.2
theorem fewOf_t {W n f l its : Nat} {aL : Nat → Nat} {okm : Nat → Nat → Bool} {pw : Nat → Nat} {s : SM} (hH : MH W n f aL okm pw s) (hl : l < 8) (hits : its < 26) : An (F_X12_fewestOf s (nI f) (nI l) (nI its)) (foP W n aL okm pw l its s) := by
  have h13 := hH.1
  have h16 := hH.2.1
  have h25 := hH.2.2.1
  have h8 := hH.2.2.2.1
  unfold F_X12_fewestOf
  rw [nm_at, nm_at]
  refine lp_up (fun q v z => F_X12_fewestOf_b6 (nI f) (nI l) (nI its) q (nI 0) v z) W (fun w z => Fr [] lA [] s z ∧ ∀ u, u < w → mA z 36 u = nI 0) _ ?_ ?_ fu 0 s (by omega) (by unfold fu; omega) ⟨Fr.rf s, fun u hu => by omega⟩
  · intro q w z hw ⟨h1, h2⟩ hK
    have z13 : mI z 13 = nI W := (h1.1 13 (by simp)).trans h13
    show An (F_X12_fewestOf_b6 (nI f) (nI l) (nI its) (q + 1) (nI 0) (nI w) z) _
    rw [F_X12_fewestOf_b6, z13, if_neg (nI_ge hw (by omega)), asN _ (by omega) (by omega), Option.bind_some, nm_at, nm_at, nI_1]
    refine hK _ ⟨h1.a 36 _ (by decide), fun u hu => ?_⟩
    rw [q_aa, if_pos rfl, u_at]
    by_cases g : u = w
    · rw [if_pos g]; rfl
    · rw [if_neg g]; exact h2 u (by omega)
  · intro q z ⟨h1, h2⟩
    have z13 : mI z 13 = nI W := (h1.1 13 (by simp)).trans h13
    show An (F_X12_fewestOf_b6 (nI f) (nI l) (nI its) (q + 1) (nI 0) (nI W) z) _
    rw [F_X12_fewestOf_b6, z13, if_pos (nI_le (Nat.le_refl W) (by omega)), nm_at]
    refine lp_up (fun q2 v (x : Int32 × SM) => F_X12_fewestOf_b32 (nI f) (nI l) (nI its) q2 x.1 v x.2) n (fun i x => Fr [] lA [] s x.2 ∧ x.1 = nI (dp aL l W (alw okm (mA s 32) (mA s 31) its) (cow pw) i).1 ∧ ∀ w, w < W → mA x.2 36 w = nI ((dp aL l W (alw okm (mA s 32) (mA s 31) its) (cow pw) i).2 w)) _ ?_ ?_ fu 0 (nI 0, z) (by omega) (by unfold fu; omega) ⟨h1, rfl, h2⟩
    · intro q2 i ⟨c, y⟩ hi ⟨g1, g2, g3⟩ hK2
      simp only [] at g1 g2 g3
      have y25 : mI y 25 = nI n := (g1.1 25 (by simp)).trans h25
      have hHy := hH.fr (g1.wd (fun _ x => x) (by decide) (fun _ x => x))
      have el := (hHy.2.2.2.2.1 y (Fr.rf y)).1 i hi
      have l8 := hH.2.2.2.2.2.1 i hi
      obtain ⟨b1, b2⟩ := dp_bd (L := aL) (l := l) (W := W) (al := alw okm (mA s 32) (mA s 31) its) (co := cow pw) i
      show An (F_X12_fewestOf_b32 (nI f) (nI l) (nI its) (q2 + 1) c (nI i) y) _
      rw [F_X12_fewestOf_b32, y25, if_neg (nI_ge hi (by omega)), el, Option.bind_some, g2]
      by_cases g : aL i = l
      · rw [if_pos (by rw [g]), nm_at]
        have hd : dp aL l W (alw okm (mA s 32) (mA s 31) its) (cow pw) (i + 1) = ((dp aL l W (alw okm (mA s 32) (mA s 31) its) (cow pw) i).1 + 1, fun w => nx W (dp aL l W (alw okm (mA s 32) (mA s 31) its) (cow pw) i).1 (dp aL l W (alw okm (mA s 32) (mA s 31) its) (cow pw) i).2 (alw okm (mA s 32) (mA s 31) its i w) (cow pw i w) w) := by rw [dp, if_pos g]
        refine few_w hHy hi (by omega) hits (fun v hv => ⟨g3 v hv, b2 v⟩) fun z2 k1 k2 => ?_
        rw [g1.2.1 32 (by decide), g1.2.1 31 (by decide)] at k2
        refine hK2 (_, z2) ⟨g1.tr k1, by rw [hd]; rfl, fun w hw => ?_⟩
        rw [hd]
        exact k2 w hw
      · have hd : dp aL l W (alw okm (mA s 32) (mA s 31) its) (cow pw) (i + 1) = dp aL l W (alw okm (mA s 32) (mA s 31) its) (cow pw) i := by rw [dp, if_neg g]
        rw [if_neg (by rw [nI_eq (by omega) (by omega)]; exact g)]
        unfold F_X12_fewestOf_b285
        rw [nm_at, nI_1]
        exact hK2 (_, y) ⟨g1, by rw [hd]; rfl, fun w hw => by rw [hd]; exact g3 w hw⟩
    · intro q2 ⟨c, y⟩ ⟨g1, g2, g3⟩
      simp only [] at g1 g2 g3
      have y25 : mI y 25 = nI n := (g1.1 25 (by simp)).trans h25
      have y13 : mI y 13 = nI W := (g1.1 13 (by simp)).trans h13
      obtain ⟨b1, b2⟩ := dp_bd (L := aL) (l := l) (W := W) (al := alw okm (mA s 32) (mA s 31) its) (co := cow pw) n
      show An (F_X12_fewestOf_b32 (nI f) (nI l) (nI its) (q2 + 1) c (nI n) y) _
      rw [F_X12_fewestOf_b32, y25, if_pos (nI_le (Nat.le_refl n) (by omega)), g2]
      unfold F_X12_fewestOf_b303
      generalize hcn : (dp aL l W (alw okm (mA s 32) (mA s 31) its) (cow pw) n).1 = cn_ at *
      by_cases g0 : cn_ = 0
      · rw [if_pos (show nI cn_ = 0 from by rw [g0]; rfl), nm_at, nm_at]
        obtain ⟨q3, eq⟩ : ∃ q3, fu = q3 + 1 := ⟨fu - 1, by unfold fu; omega⟩
        have fin : foP W n aL okm pw l its s (0, y) := ⟨by show (0 : Int32) = _; unfold fo; rw [hcn, if_pos g0]; rfl, g1⟩
        rw [eq, F_X12_fewestOf_b308, y13]
        refine An_if (fun _ => An_some fin) (fun _ => ?_)
        rw [if_pos (show nI cn_ ≤ 1 from nI_le (b := 1) (by omega) (by omega))]
        exact An_some fin
      · rw [if_neg (show ¬ nI cn_ = 0 from by rw [show (0 : Int32) = nI 0 from rfl, nI_eq (by omega) (by omega)]; exact g0), nm_at, nm_at]
        by_cases g4 : cn_ = 1
        · obtain ⟨q3, eq⟩ : ∃ q3, fu = q3 + 1 := ⟨fu - 1, by unfold fu; omega⟩
          have fin : foP W n aL okm pw l its s (1000, y) := ⟨by show (1000 : Int32) = _; unfold fo; rw [hcn, if_neg g0, if_pos g4]; rfl, g1⟩
          rw [eq, F_X12_fewestOf_b308, y13]
          refine An_if (fun _ => An_some fin) (fun _ => ?_)
          rw [if_pos (show nI cn_ ≤ 1 from nI_le (b := 1) (by omega) (by omega))]
          exact An_some fin
        · refine lp_up (fun q3 v (x : Int32) => F_X12_fewestOf_b308 (nI f) (nI l) (nI its) q3 (nI cn_) x v y) W (fun w x => x = nI (mv (dp aL l W (alw okm (mA s 32) (mA s 31) its) (cow pw) n).2 w)) _ ?_ ?_ fu 0 (nI 1000) (by omega) (by unfold fu; omega) rfl
          · intro q3 w x hw hx hK3
            have hm := mv_le (dp aL l W (alw okm (mA s 32) (mA s 31) its) (cow pw) n).2 w
            have hb := b2 w
            show An (F_X12_fewestOf_b308 (nI f) (nI l) (nI its) (q3 + 1) (nI cn_) x (nI w) y) _
            rw [F_X12_fewestOf_b308, y13, if_neg (nI_ge hw (by omega)), if_neg (show ¬ nI cn_ ≤ 1 from nI_ge (a := 1) (by omega) (by omega)), agN (by omega) (by omega), Option.bind_some, Option.bind_some, hx, g3 w hw]
            unfold F_X12_fewestOf_b347
            by_cases g5 : mv (dp aL l W (alw okm (mA s 32) (mA s 31) its) (cow pw) n).2 w ≤ (dp aL l W (alw okm (mA s 32) (mA s 31) its) (cow pw) n).2 w
            · rw [if_pos (nI_le g5 (by omega)), nm_at, nm_at, nI_1]
              exact hK3 _ (by rw [mv, if_neg (by omega)])
            · rw [if_neg (nI_ge (by omega) (by omega)), nm_at, nm_at, nI_1]
              exact hK3 _ (by rw [mv, if_pos (by omega)])
          · intro q3 x hx
            show An (F_X12_fewestOf_b308 (nI f) (nI l) (nI its) (q3 + 1) (nI cn_) x (nI W) y) _
            rw [F_X12_fewestOf_b308, y13, if_pos (nI_le (Nat.le_refl W) (by omega))]
            refine An_some ⟨?_, g1⟩
            show x = _
            unfold fo
            rw [hcn, if_neg g0, if_neg g4]
            exact hx
def faP (W n : Nat) (aL : Nat → Nat) (okm : Nat → Nat → Bool) (pw : Nat → Nat) (s : SM) (q : Int32 × SM) : Prop := q.1 = nI (fa aL W n (alw okm (mA s 32) (mA s 31)) (cow pw)) ∧ Fr [] lA [] s q.2
theorem fewAll_t {W n f : Nat} {aL : Nat → Nat} {okm : Nat → Nat → Bool} {pw : Nat → Nat} {s : SM} (hH : MH W n f aL okm pw s) : An (F_X12_fewestAll s (nI f)) (faP W n aL okm pw s) := by
  unfold F_X12_fewestAll
  rw [nm_at, nm_at]
  refine lp_up (fun q v (x : Int32 × SM) => F_X12_fewestAll_b4 (nI f) q x.1 v x.2) 8 (fun l x => Fr [] lA [] s x.2 ∧ x.1 = nI (sm (fl8 aL W n (alw okm (mA s 32) (mA s 31)) (cow pw)) l)) _ ?_ ?_ fu 0 (nI 0, s) (by omega) (by unfold fu; omega) ⟨Fr.rf s, rfl⟩
  · intro q l ⟨c, y⟩ hl ⟨h1, h2⟩ hK
    simp only [] at h1 h2
    show An (F_X12_fewestAll_b4 (nI f) (q + 1) c (nI l) y) _
    rw [F_X12_fewestAll_b4, if_neg (show ¬ (8 : Int32) ≤ nI l from nI_ge (b := 8) hl (by omega)), nm_at, nm_at, h2]
    refine lp_up (fun q2 v (x : Int32 × SM) => F_X12_fewestAll_b18 (nI f) (F_X12_fewestAll_b4 (nI f) q) q2 (nI (sm (fl8 aL W n (alw okm (mA s 32) (mA s 31)) (cow pw)) l)) (nI l) x.1 v x.2) 26 (fun t x => Fr [] lA [] s x.2 ∧ x.1 = nI (mv (fun its => fo aL W n (alw okm (mA s 32) (mA s 31) its) (cow pw) l) t)) _ ?_ ?_ fu 0 (nI 1000, y) (by omega) (by unfold fu; omega) ⟨h1, rfl⟩
    · intro q2 t ⟨b, z⟩ ht ⟨g1, g2⟩ hK2
      simp only [] at g1 g2
      have hHz := hH.fr (g1.wd (fun _ x => x) (by decide) (fun _ x => x))
      obtain ⟨⟨r, z2⟩, e1, e2, e3⟩ := fewOf_t hHz hl ht
      simp only [] at e2 e3
      rw [g1.2.1 32 (by decide), g1.2.1 31 (by decide)] at e2
      have hm := mv_le (fun its => fo aL W n (alw okm (mA s 32) (mA s 31) its) (cow pw) l) t
      have hf := fo_le (L := aL) (W := W) (n := n) (al := alw okm (mA s 32) (mA s 31) t) (co := cow pw) (l := l)
      show An (F_X12_fewestAll_b18 (nI f) (F_X12_fewestAll_b4 (nI f) q) (q2 + 1) (nI (sm (fl8 aL W n (alw okm (mA s 32) (mA s 31)) (cow pw)) l)) (nI l) b (nI t) z) _
      rw [F_X12_fewestAll_b18, if_neg (show ¬ (26 : Int32) ≤ nI t from nI_ge (b := 26) ht (by omega)), e1, Option.bind_some, nm_at]
      show An (if b ≤ r then _ else _) _
      rw [g2, e2]
      unfold F_X12_fewestAll_b49
      by_cases c1 : mv (fun its => fo aL W n (alw okm (mA s 32) (mA s 31) its) (cow pw) l) t ≤ fo aL W n (alw okm (mA s 32) (mA s 31) t) (cow pw) l
      · rw [if_pos (nI_le c1 (by omega)), nm_at, nm_at, nI_1]
        exact hK2 (_, z2) ⟨g1.tr e3, by rw [mv, if_neg (by omega)]; rfl⟩
      · rw [if_neg (nI_ge (by omega) (by omega)), nm_at, nm_at, nI_1]
        exact hK2 (_, z2) ⟨g1.tr e3, by rw [mv, if_pos (by omega)]⟩
    · intro q2 ⟨b, z⟩ ⟨g1, g2⟩
      simp only [] at g1 g2
      show An (F_X12_fewestAll_b18 (nI f) (F_X12_fewestAll_b4 (nI f) q) (q2 + 1) (nI (sm (fl8 aL W n (alw okm (mA s 32) (mA s 31)) (cow pw)) l)) (nI l) b (nI 26) z) _
      rw [F_X12_fewestAll_b18, if_pos (show (26 : Int32) ≤ nI 26 from nI_le (a := 26) (by omega) (by omega)), nm_at, nm_at, nI_1, g2, nI_add]
      exact hK (_, z) ⟨g1, rfl⟩
  · intro q ⟨c, y⟩ ⟨h1, h2⟩
    simp only [] at h1 h2
    have hb := sm_le (g := fl8 aL W n (alw okm (mA s 32) (mA s 31)) (cow pw)) (n := 8) (fun v _ => mv_le _ _)
    show An (F_X12_fewestAll_b4 (nI f) (q + 1) c (nI 8) y) _
    rw [F_X12_fewestAll_b4, if_pos (show (8 : Int32) ≤ nI 8 from nI_le (a := 8) (by omega) (by omega)), h2]
    by_cases g : sm (fl8 aL W n (alw okm (mA s 32) (mA s 31)) (cow pw)) 8 ≤ 1000
    · rw [if_pos (show nI (sm (fl8 aL W n (alw okm (mA s 32) (mA s 31)) (cow pw)) 8) ≤ 1000 from nI_le (b := 1000) g (by omega))]
      exact An_some ⟨by show nI _ = nI (fa _ _ _ _ _); unfold fa; rw [if_neg (by omega)], h1⟩
    · rw [if_neg (show ¬ nI (sm (fl8 aL W n (alw okm (mA s 32) (mA s 31)) (cow pw)) 8) ≤ 1000 from nI_ge (a := 1000) (by omega) (by omega))]
      exact An_some ⟨by show (1000 : Int32) = nI (fa _ _ _ _ _); unfold fa; rw [if_pos (by omega)]; rfl, h1⟩
