/-! ===== the fewest: numbers alone ===== -/
/-- the least of g below W, 1000 at most -/
def mv (g : Nat → Nat) : Nat → Nat
  | 0 => 1000
  | v + 1 => if g v < mv g v then g v else mv g v
theorem mv_le (g : Nat → Nat) : ∀ W, mv g W ≤ 1000 := by
  intro W
  induction W with
  | zero => exact Nat.le_refl _
  | succ W ih => rw [mv]; split <;> omega
theorem mv_at {g : Nat → Nat} : ∀ {W v : Nat}, v < W → mv g W ≤ g v := by
  intro W
  induction W with
  | zero => intro v h; omega
  | succ W ih =>
    intro v h
    rw [mv]
    by_cases c : v = W
    · rw [c]; split <;> omega
    · have := ih (v := v) (by omega)
      split <;> omega
theorem mv_att {g : Nat → Nat} : ∀ {W : Nat}, mv g W < 1000 → ∃ v, v < W ∧ g v = mv g W := by
  intro W
  induction W with
  | zero => intro h; rw [mv] at h; omega
  | succ W ih =>
    intro h
    rw [mv] at h ⊢
    by_cases c : g W < mv g W
    · rw [if_pos c]; exact ⟨W, by omega, rfl⟩
    · rw [if_neg c] at h ⊢
      obtain ⟨v, h1, h2⟩ := ih h
      exact ⟨v, by omega, h2⟩
theorem mv_mono {g g2 : Nat → Nat} : ∀ {W : Nat}, (∀ v, v < W → g v ≤ g2 v) → mv g W ≤ mv g2 W := by
  intro W
  induction W with
  | zero => intro _; exact Nat.le_refl _
  | succ W ih =>
    intro h
    have h1 := ih fun v hv => h v (by omega)
    have h2 := h W (by omega)
    rw [mv, mv]
    split <;> split <;> omega
theorem mv_cg {g g2 : Nat → Nat} : ∀ {W : Nat}, (∀ v, v < W → g v = g2 v) → mv g W = mv g2 W := by
  intro W
  induction W with
  | zero => intro _; rfl
  | succ W ih =>
    intro h
    rw [mv, mv, ih fun v hv => h v (by omega), h W (by omega)]
/-- the least with a word w at a line more, n lines of the letter ahead -/
def nxg (n : Nat) (le : Nat → Nat) (c w : Nat) : Nat → Nat := fun v => if (if n = 0 then decide (v = w) else decide (¬ v = w)) = true then le v + c else 1000
def nx (W n : Nat) (le : Nat → Nat) (a : Bool) (c w : Nat) : Nat := if a = true then mv (nxg n le c w) W else 1000
theorem nx_le {W n : Nat} {le : Nat → Nat} {a : Bool} {c w : Nat} : nx W n le a c w ≤ 1000 := by
  unfold nx
  split
  · exact mv_le _ _
  · exact Nat.le_refl _
def dp (L : Nat → Nat) (l W : Nat) (al : Nat → Nat → Bool) (co : Nat → Nat → Nat) : Nat → Nat × (Nat → Nat)
  | 0 => (0, fun _ => 0)
  | i + 1 => if L i = l then ((dp L l W al co i).1 + 1, fun w => nx W (dp L l W al co i).1 (dp L l W al co i).2 (al i w) (co i w) w) else dp L l W al co i
def fo (L : Nat → Nat) (W n : Nat) (al : Nat → Nat → Bool) (co : Nat → Nat → Nat) (l : Nat) : Nat := if (dp L l W al co n).1 = 0 then 0 else if (dp L l W al co n).1 = 1 then 1000 else mv (dp L l W al co n).2 W
theorem fo_le {L : Nat → Nat} {W n : Nat} {al : Nat → Nat → Bool} {co : Nat → Nat → Nat} {l : Nat} : fo L W n al co l ≤ 1000 := by
  unfold fo
  split
  · omega
  · split
    · exact Nat.le_refl _
    · exact mv_le _ _
def sm (g : Nat → Nat) : Nat → Nat
  | 0 => 0
  | l + 1 => sm g l + g l
theorem sm_cg {g g2 : Nat → Nat} : ∀ {n : Nat}, (∀ v, v < n → g v = g2 v) → sm g n = sm g2 n := by
  intro n
  induction n with
  | zero => intro _; rfl
  | succ n ih => intro h; rw [sm, sm, ih fun v hv => h v (by omega), h n (by omega)]
theorem sm_at {g : Nat → Nat} : ∀ {n v : Nat}, v < n → g v ≤ sm g n := by
  intro n
  induction n with
  | zero => intro v h; omega
  | succ n ih =>
    intro v h
    rw [sm]
    by_cases c : v = n
    · rw [c]; omega
    · have := ih (v := v) (by omega); omega
theorem sm_le {g : Nat → Nat} : ∀ {n : Nat}, (∀ v, v < n → g v ≤ 1000) → sm g n ≤ 1000 * n := by
  intro n
  induction n with
  | zero => intro _; exact Nat.le_refl _
  | succ n ih =>
    intro h
    have := ih fun v hv => h v (by omega)
    have := h n (by omega)
    rw [sm]; omega
/-- by letters and sounds: al is told for each sound -/
def fl8 (L : Nat → Nat) (W n : Nat) (al : Nat → Nat → Nat → Bool) (co : Nat → Nat → Nat) (l : Nat) : Nat := mv (fun its => fo L W n (al its) co l) 26
def fa (L : Nat → Nat) (W n : Nat) (al : Nat → Nat → Nat → Bool) (co : Nat → Nat → Nat) : Nat := if 1000 < sm (fl8 L W n al co) 8 then 1000 else sm (fl8 L W n al co) 8
/-! one line's words narrowed to one -/
def one (al : Nat → Nat → Bool) (k u : Nat) : Nat → Nat → Bool := fun i w => if i = k then al i w && decide (w = u) else al i w
theorem dp_cnt (L : Nat → Nat) (l W : Nat) (al al2 : Nat → Nat → Bool) (co : Nat → Nat → Nat) : ∀ i, (dp L l W al co i).1 = (dp L l W al2 co i).1 := by
  intro i
  induction i with
  | zero => rfl
  | succ i ih =>
    rw [dp, dp]
    by_cases c : L i = l
    · rw [if_pos c, if_pos c]; show _ + 1 = _ + 1; rw [ih]
    · rw [if_neg c, if_neg c]; exact ih
theorem dp_cg {L : Nat → Nat} {l W : Nat} {al al2 : Nat → Nat → Bool} {co : Nat → Nat → Nat} : ∀ {i}, (∀ j, j < i → L j = l → ∀ w, w < W → al j w = al2 j w) → (∀ w, w < W → (dp L l W al co i).2 w = (dp L l W al2 co i).2 w) := by
  intro i
  induction i with
  | zero => intro _ w _; rfl
  | succ i ih =>
    intro h w hw
    have hi := ih fun j hj => h j (by omega)
    rw [dp, dp]
    by_cases c : L i = l
    · rw [if_pos c, if_pos c]
      show nx _ _ _ _ _ _ = nx _ _ _ _ _ _
      unfold nx
      rw [dp_cnt L l W al al2 co i, h i (by omega) c w hw]
      split
      · refine mv_cg fun v hv => ?_
        unfold nxg
        rw [hi v hv]
      · rfl
    · rw [if_neg c, if_neg c]; exact hi w hw
theorem dp_mono {L : Nat → Nat} {l W : Nat} {al al2 : Nat → Nat → Bool} {co : Nat → Nat → Nat} (h : ∀ j w, al2 j w = true → al j w = true) : ∀ i w, w < W → (dp L l W al co i).2 w ≤ (dp L l W al2 co i).2 w := by
  intro i
  induction i with
  | zero => intro w _; exact Nat.le_refl _
  | succ i ih =>
    intro w hw
    rw [dp, dp]
    by_cases c : L i = l
    · rw [if_pos c, if_pos c]
      show nx _ _ _ _ _ _ ≤ nx _ _ _ _ _ _
      unfold nx
      rw [dp_cnt L l W al al2 co i]
      by_cases d : al2 i w = true
      · rw [if_pos d, if_pos (h i w d)]
        refine mv_mono fun v hv => ?_
        unfold nxg
        have := ih v hv
        by_cases g : (if (dp L l W al2 co i).1 = 0 then decide (v = w) else decide (¬ v = w)) = true
        · rw [if_pos g, if_pos g]; omega
        · rw [if_neg g, if_neg g]; exact Nat.le_refl _
      · rw [if_neg d]
        split
        · exact mv_le _ _
        · exact Nat.le_refl _
    · rw [if_neg c, if_neg c]; exact ih w hw
/-- some word of the line keeps the least -/
theorem dp_one {L : Nat → Nat} {l W : Nat} {al : Nat → Nat → Bool} {co : Nat → Nat → Nat} {k : Nat} (hk : L k = l) : ∀ i w, k < i → w < W → (dp L l W al co i).2 w < 1000 → ∃ u, u < W ∧ al k u = true ∧ (dp L l W (one al k u) co i).2 w = (dp L l W al co i).2 w := by
  have sub : ∀ u j w, one al k u j w = true → al j w = true := by
    intro u j w h
    unfold one at h
    by_cases c : j = k
    · rw [if_pos c] at h
      simp only [Bool.and_eq_true] at h
      exact h.1
    · rw [if_neg c] at h; exact h
  intro i
  induction i with
  | zero => intro w h; omega
  | succ i ih =>
    intro w hki hw h
    by_cases c : L i = l
    · rw [dp, if_pos c] at h
      have h : nx W (dp L l W al co i).1 (dp L l W al co i).2 (al i w) (co i w) w < 1000 := h
      unfold nx at h
      by_cases d : al i w = true
      · rw [if_pos d] at h
        by_cases e : i = k
        · refine ⟨w, hw, by rw [← e]; exact d, ?_⟩
          rw [dp, dp, if_pos c, if_pos c]
          show nx _ _ _ _ _ _ = nx _ _ _ _ _ _
          have e1 : one al k w i w = al i w := by
            unfold one
            rw [if_pos e]; simp
          unfold nx
          rw [dp_cnt L l W (one al k w) al co i, e1, d, if_pos rfl, if_pos rfl]
          refine mv_cg fun v hv => ?_
          unfold nxg
          rw [dp_cg (al := one al k w) (al2 := al) (fun j hj _ w2 _ => by unfold one; rw [if_neg (by omega)]) v hv]
        · obtain ⟨v, hv, ev⟩ := mv_att h
          rw [← ev] at h
          have ev' := ev
          unfold nxg at h
          by_cases g : (if (dp L l W al co i).1 = 0 then decide (v = w) else decide (¬ v = w)) = true
          · rw [if_pos g] at h
            obtain ⟨u, u1, u2, u3⟩ := ih v (by omega) hv (by omega)
            refine ⟨u, u1, u2, ?_⟩
            refine Nat.le_antisymm ?_ (dp_mono (sub u) (i + 1) w hw)
            have e2 : one al k u i w = true := by
              unfold one
              rw [if_neg e]; exact d
            rw [dp, dp, if_pos c, if_pos c]
            show nx _ _ _ _ _ _ ≤ nx _ _ _ _ _ _
            unfold nx
            rw [e2, d, if_pos rfl, if_pos rfl, ← ev']
            refine Nat.le_trans (mv_at hv) ?_
            unfold nxg
            rw [dp_cnt L l W (one al k u) al co i, u3]
            exact Nat.le_refl _
          · rw [if_neg g] at h; omega
      · rw [if_neg d] at h; omega
    · have hik : ¬ k = i := fun e => c (by rw [← e]; exact hk)
      rw [dp, if_neg c] at h
      obtain ⟨u, u1, u2, u3⟩ := ih w (by omega) hw h
      refine ⟨u, u1, u2, ?_⟩
      rw [dp, dp, if_neg c, if_neg c]
      exact u3
theorem fo_mono {L : Nat → Nat} {l W n : Nat} {al al2 : Nat → Nat → Bool} {co : Nat → Nat → Nat} (h : ∀ j w, al2 j w = true → al j w = true) : fo L W n al co l ≤ fo L W n al2 co l := by
  unfold fo
  rw [dp_cnt L l W al al2 co n]
  split
  · exact Nat.le_refl _
  · split
    · exact Nat.le_refl _
    · exact mv_mono fun v hv => dp_mono h n v hv
theorem fo_cg {L : Nat → Nat} {l W n : Nat} {al al2 : Nat → Nat → Bool} {co : Nat → Nat → Nat} (h : ∀ j, j < n → L j = l → ∀ w, w < W → al j w = al2 j w) : fo L W n al co l = fo L W n al2 co l := by
  unfold fo
  rw [dp_cnt L l W al al2 co n]
  split
  · rfl
  · split
    · rfl
    · exact mv_cg fun v hv => dp_cg h v hv
theorem dp_pos {L : Nat → Nat} {l W : Nat} {al : Nat → Nat → Bool} {co : Nat → Nat → Nat} {k : Nat} (hk : L k = l) : ∀ i, k < i → 0 < (dp L l W al co i).1 := by
  intro i
  induction i with
  | zero => intro h; omega
  | succ i ih =>
    intro h
    rw [dp]
    by_cases c : L i = l
    · rw [if_pos c]; show 0 < _ + 1; omega
    · rw [if_neg c]
      by_cases e : k = i
      · exact absurd (by rw [← e]; exact hk) c
      · exact ih (by omega)
theorem fo_one {L : Nat → Nat} {l W n : Nat} {al : Nat → Nat → Bool} {co : Nat → Nat → Nat} {k : Nat} (hk : L k = l) (hkn : k < n) (h : fo L W n al co l < 1000) : ∃ u, u < W ∧ al k u = true ∧ fo L W n (one al k u) co l = fo L W n al co l := by
  have sub : ∀ u j w, one al k u j w = true → al j w = true := by
    intro u j w h
    unfold one at h
    by_cases c : j = k
    · rw [if_pos c] at h
      simp only [Bool.and_eq_true] at h
      exact h.1
    · rw [if_neg c] at h; exact h
  have hp := dp_pos (W := W) (al := al) (co := co) hk n hkn
  unfold fo at h
  rw [if_neg (by omega)] at h
  by_cases c : (dp L l W al co n).1 = 1
  · rw [if_pos c] at h; omega
  · rw [if_neg c] at h
    obtain ⟨w, hw, ew⟩ := mv_att h
    obtain ⟨u, u1, u2, u3⟩ := dp_one (al := al) (co := co) hk n w hkn hw (by omega)
    refine ⟨u, u1, u2, Nat.le_antisymm ?_ (fo_mono (sub u))⟩
    unfold fo
    rw [dp_cnt L l W (one al k u) al co n, if_neg (by omega), if_neg c, if_neg (by omega), if_neg c, ← ew, ← u3]
    exact mv_at hw
/-- all letters: some word of line k keeps the fewest -/
theorem fa_one {L : Nat → Nat} {W n : Nat} {al : Nat → Nat → Nat → Bool} {co : Nat → Nat → Nat} {k : Nat} (hk : k < n) (hL : L k < 8) (h : fa L W n al co < 1000) : ∃ its u, u < W ∧ al its k u = true ∧ fa L W n (fun t => one (al t) k u) co = fa L W n al co := by
  have h8 : fl8 L W n al co (L k) < 1000 := by
    have := sm_at (g := fl8 L W n al co) (n := 8) hL
    unfold fa at h
    split at h <;> omega
  obtain ⟨its, t1, t2⟩ := mv_att (show mv (fun its => fo L W n (al its) co (L k)) 26 < 1000 from h8)
  obtain ⟨u, u1, u2, u3⟩ := fo_one (L := L) (W := W) (l := L k) (al := al its) (co := co) rfl hk (by
    have : fo L W n (al its) co (L k) = fl8 L W n al co (L k) := t2
    omega)
  refine ⟨its, u, u1, u2, ?_⟩
  have e : ∀ l, l < 8 → fl8 L W n (fun t => one (al t) k u) co l = fl8 L W n al co l := by
    intro l hl
    by_cases c : l = L k
    · rw [c]
      refine Nat.le_antisymm ?_ (mv_mono fun t _ => fo_mono fun j w hj => ?_)
      · unfold fl8
        rw [← t2]
        refine Nat.le_trans (mv_at t1) ?_
        show fo L W n (one (al its) k u) co (L k) ≤ fo L W n (al its) co (L k)
        rw [u3]
        exact Nat.le_refl _
      · have hj : one (al t) k u j w = true := hj
        unfold one at hj
        by_cases d : j = k
        · rw [if_pos d] at hj
          simp only [Bool.and_eq_true] at hj
          exact hj.1
        · rw [if_neg d] at hj; exact hj
    · unfold fl8
      refine mv_cg fun t _ => fo_cg fun j hj hjl w _ => ?_
      show one (al t) k u j w = al t j w
      unfold one
      rw [if_neg (fun e : j = k => c (by rw [← hjl, e]))]
  unfold fa
  rw [sm_cg e]
theorem fa_cg {L : Nat → Nat} {W n : Nat} {al al2 : Nat → Nat → Nat → Bool} {co : Nat → Nat → Nat} (h : ∀ t j w, t < 26 → j < n → w < W → al t j w = al2 t j w) : fa L W n al co = fa L W n al2 co := by
  unfold fa
  rw [sm_cg (g := fl8 L W n al co) (g2 := fl8 L W n al2 co) fun l _ => mv_cg fun t ht => fo_cg fun j hj _ w hw => h t j w ht hj hw]
