/-! ===== ways: numbers alone ===== -/
theorem sm_add {g h : Nat → Nat} : ∀ n, sm (fun v => g v + h v) n = sm g n + sm h n := by
  intro n
  induction n with
  | zero => rfl
  | succ n ih => rw [sm, sm, sm, ih]; omega
theorem sm_mul {g : Nat → Nat} {c : Nat} : ∀ n, sm (fun v => c * g v) n = c * sm g n := by
  intro n
  induction n with
  | zero => rfl
  | succ n ih => rw [sm, sm, ih, Nat.mul_add]
theorem sm_mulr {g : Nat → Nat} {c : Nat} : ∀ n, sm (fun v => g v * c) n = sm g n * c := by
  intro n
  induction n with
  | zero => rw [sm, sm, Nat.zero_mul]
  | succ n ih => rw [sm, sm, ih, Nat.add_mul]
theorem sm_0 : ∀ {n : Nat} {g : Nat → Nat}, (∀ v, v < n → g v = 0) → sm g n = 0 := by
  intro n
  induction n with
  | zero => intro g _; rfl
  | succ n ih => intro g h; rw [sm, ih fun v hv => h v (by omega), h n (by omega)]
theorem sm_swap {g : Nat → Nat → Nat} {m : Nat} : ∀ n, sm (fun v => sm (g v) m) n = sm (fun w => sm (fun v => g v w) n) m := by
  intro n
  induction n with
  | zero => rw [sm]; exact (sm_0 fun v _ => rfl).symm
  | succ n ih => rw [sm, ih, ← sm_add]; rfl
theorem sm_but {g : Nat → Nat} {w : Nat} : ∀ {n : Nat}, w < n → sm g n = sm (fun v => if v = w then 0 else g v) n + g w := by
  intro n
  induction n with
  | zero => intro h; omega
  | succ n ih =>
    intro h
    rw [sm, sm]
    by_cases c : n = w
    · rw [if_pos c, c]
      have : sm (fun v => if v = w then 0 else g v) w = sm g w := sm_cg fun v hv => if_neg (by omega)
      omega
    · rw [if_neg c, ih (by omega)]; omega
theorem sm_one {x : Nat → Nat} {w : Nat} {n : Nat} (h : w < n) : sm (fun v => if v = w then x v else 0) n = x w := by
  rw [sm_but h, if_pos rfl, sm_0 fun v _ => by
    show (if v = w then 0 else if v = w then x v else 0) = 0
    split
    · rfl
    · rfl, Nat.zero_add]
theorem sm_pos {g : Nat → Nat} : ∀ {n : Nat}, 0 < sm g n → ∃ v, v < n ∧ 0 < g v := by
  intro n
  induction n with
  | zero => intro h; rw [sm] at h; omega
  | succ n ih =>
    intro h
    rw [sm] at h
    by_cases c : 0 < g n
    · exact ⟨n, by omega, c⟩
    · obtain ⟨v, h1, h2⟩ := ih (by omega)
      exact ⟨v, by omega, h2⟩
theorem sm_mono {g h : Nat → Nat} : ∀ {n : Nat}, (∀ v, v < n → g v ≤ h v) → sm g n ≤ sm h n := by
  intro n
  induction n with
  | zero => intro _; exact Nat.le_refl _
  | succ n ih =>
    intro q
    have h1 := ih fun v hv => q v (by omega)
    have h2 := q n (by omega)
    rw [sm, sm]; omega
/-- the ways of the words of a letter's lines, line by line from the front -/
def wd (L : Nat → Nat) (l W : Nat) (al : Nat → Nat → Bool) : Nat → Nat × (Nat → Nat)
  | 0 => (0, fun _ => 0)
  | i + 1 => if L i = l then ((wd L l W al i).1 + 1, fun w => if al i w = true then (if (wd L l W al i).1 = 0 then 1 else sm (fun v => if v = w then 0 else (wd L l W al i).2 v) W) else 0) else wd L l W al i
def als (ok : Nat → Nat → Bool) (sd : Nat → Int32) (its : Nat) (i w : Nat) : Bool := ok i w && decide (sd w = nI its)
/-- the ways on from a word, over the last k lines of n -/
def cm (L : Nat → Nat) (l W n : Nat) (ok : Nat → Nat → Bool) (sd : Nat → Int32) : Nat → Nat → Nat
  | 0 => fun _ => 1
  | k + 1 => if L (n - (k + 1)) = l then fun w => sm (fun v => if (rhv sd w v && ok (n - (k + 1)) v) = true then cm L l W n ok sd k v else 0) W else cm L l W n ok sd k
theorem wd_sup {L : Nat → Nat} {l W : Nat} {ok : Nat → Nat → Bool} {sd : Nat → Int32} {its : Nat} : ∀ i w, (wd L l W (als ok sd its) i).2 w ≠ 0 → sd w = nI its := by
  intro i
  induction i with
  | zero => intro w h; exact absurd rfl h
  | succ i ih =>
    intro w h
    rw [wd] at h
    by_cases c : L i = l
    · rw [if_pos c] at h
      by_cases a : als ok sd its i w = true
      · unfold als at a
        simp only [Bool.and_eq_true, decide_eq_true_eq] at a
        exact a.2
      · exact absurd (if_neg a) h
    · rw [if_neg c] at h; exact ih w h
theorem wd_cnt (L : Nat → Nat) (l W : Nat) (al al2 : Nat → Nat → Bool) : ∀ i, (wd L l W al i).1 = (wd L l W al2 i).1 := by
  intro i
  induction i with
  | zero => rfl
  | succ i ih =>
    rw [wd, wd]
    by_cases c : L i = l
    · rw [if_pos c, if_pos c]; show _ + 1 = _ + 1; rw [ih]
    · rw [if_neg c, if_neg c]; exact ih
/-- ahead's ways by the ways on: the same at every line -/
def wT (L : Nat → Nat) (l W n : Nat) (ok : Nat → Nat → Bool) (sd : Nat → Int32) (its k : Nat) : Nat := sm (fun w => (wd L l W (als ok sd its) (n - k)).2 w * cm L l W n ok sd k w) W
theorem wT_st {L : Nat → Nat} {l W n : Nat} {ok : Nat → Nat → Bool} {sd : Nat → Int32} {its k : Nat} (hk : k < n) (hp : 0 < (wd L l W (als ok sd its) (n - (k + 1))).1) : wT L l W n ok sd its (k + 1) = wT L l W n ok sd its k := by
  obtain ⟨i, hi⟩ : ∃ i, i = n - (k + 1) := ⟨_, rfl⟩
  have hi2 : n - k = i + 1 := by omega
  unfold wT
  rw [← hi] at hp
  rw [cm, ← hi, hi2, wd]
  by_cases c : L i = l
  · rw [if_pos c, if_pos c]
    show sm (fun w => (wd L l W (als ok sd its) i).2 w * sm (fun v => if (rhv sd w v && ok i v) = true then cm L l W n ok sd k v else 0) W) W = sm (fun w => (if als ok sd its i w = true then (if (wd L l W (als ok sd its) i).1 = 0 then 1 else sm (fun v => if v = w then 0 else (wd L l W (als ok sd its) i).2 v) W) else 0) * cm L l W n ok sd k w) W
    rw [show (fun w => (wd L l W (als ok sd its) i).2 w * sm (fun v => if (rhv sd w v && ok i v) = true then cm L l W n ok sd k v else 0) W) = (fun w => sm (fun v => (wd L l W (als ok sd its) i).2 w * (if (rhv sd w v && ok i v) = true then cm L l W n ok sd k v else 0)) W) from funext fun w => (sm_mul W).symm, sm_swap]
    refine sm_cg fun v hv => ?_
    show sm (fun w => (wd L l W (als ok sd its) i).2 w * (if (rhv sd w v && ok i v) = true then cm L l W n ok sd k v else 0)) W = _
    by_cases a : als ok sd its i v = true
    · rw [if_pos a, if_neg (by omega), ← sm_mulr]
      refine sm_cg fun w hw => ?_
      show _ = (if w = v then 0 else (wd L l W (als ok sd its) i).2 w) * cm L l W n ok sd k v
      unfold als at a
      simp only [Bool.and_eq_true, decide_eq_true_eq] at a
      by_cases z : (wd L l W (als ok sd its) i).2 w = 0
      · rw [z, Nat.zero_mul]
        split <;> rw [Nat.zero_mul]
      · have es := wd_sup i w z
        by_cases e : w = v
        · rw [if_pos e, if_neg (by unfold rhv; simp [e]), Nat.zero_mul, Nat.mul_zero]
        · rw [if_neg e, if_pos (by unfold rhv; simp [e, es, a.1, a.2])]
    · rw [if_neg a, Nat.zero_mul]
      refine sm_0 fun w hw => ?_
      show _ * (if (rhv sd w v && ok i v) = true then _ else 0) = 0
      by_cases z : (wd L l W (als ok sd its) i).2 w = 0
      · rw [z, Nat.zero_mul]
      · have es := wd_sup i w z
        rw [if_neg, Nat.mul_zero]
        intro q
        unfold rhv at q
        simp only [Bool.and_eq_true, decide_eq_true_eq] at q
        refine a ?_
        unfold als
        simp only [Bool.and_eq_true, decide_eq_true_eq]
        exact ⟨q.2, by rw [← q.1.2]; exact es⟩
  · rw [if_neg c, if_neg c]
theorem wd_pos {L : Nat → Nat} {l W : Nat} {al : Nat → Nat → Bool} {a : Nat} (ha : L a = l) : ∀ i, a < i → 0 < (wd L l W al i).1 := by
  intro i
  induction i with
  | zero => intro h; omega
  | succ i ih =>
    intro h
    rw [wd]
    by_cases c : L i = l
    · rw [if_pos c]; exact Nat.succ_pos _
    · rw [if_neg c]
      refine ih ?_
      rcases Nat.lt_or_ge a i with q | q
      · exact q
      · exact absurd (by rw [show i = a from by omega]; exact ha) c
theorem wd_none {L : Nat → Nat} {l W : Nat} {al : Nat → Nat → Bool} : ∀ i, (∀ j, j < i → ¬ L j = l) → wd L l W al i = (0, fun _ => 0) := by
  intro i
  induction i with
  | zero => intro _; rfl
  | succ i ih => intro h; rw [wd, if_neg (h i (by omega))]; exact ih fun j hj => h j (by omega)
/-- from a line of the letter on to the end -/
theorem wT_to {L : Nat → Nat} {l W n : Nat} {ok : Nat → Nat → Bool} {sd : Nat → Int32} {its a : Nat} (ha : L a = l) : ∀ k, k + a + 1 ≤ n → wT L l W n ok sd its k = sm (wd L l W (als ok sd its) n).2 W := by
  intro k
  induction k with
  | zero =>
    intro _
    unfold wT
    exact sm_cg fun w _ => by show _ * 1 = _; rw [Nat.mul_one]; rfl
  | succ k ih =>
    intro h
    rw [wT_st (by omega) (wd_pos ha _ (by omega))]
    exact ih (by omega)
/-- the ways of a letter, by its first line -/
theorem wd_first {L : Nat → Nat} {l W n : Nat} {ok : Nat → Nat → Bool} {sd : Nat → Int32} {a : Nat} (ha : L a = l) (han : a < n) (hf : ∀ j, j < a → ¬ L j = l) (its : Nat) : sm (wd L l W (als ok sd its) n).2 W = sm (fun w => if als ok sd its a w = true then cm L l W n ok sd (n - (a + 1)) w else 0) W := by
  rw [← wT_to (n := n) (ok := ok) (sd := sd) (its := its) (W := W) ha (n - (a + 1)) (by omega)]
  unfold wT
  rw [show n - (n - (a + 1)) = a + 1 from by omega, wd, if_pos ha, wd_none a hf]
  refine sm_cg fun w _ => ?_
  show (if als ok sd its a w = true then (if (0 : Nat) = 0 then 1 else _) else 0) * _ = _
  rw [if_pos rfl]
  split
  · exact Nat.one_mul _
  · exact Nat.zero_mul _
theorem wd_all {L : Nat → Nat} {l W n : Nat} {ok : Nat → Nat → Bool} {sd : Nat → Int32} {a : Nat} (ha : L a = l) (han : a < n) (hf : ∀ j, j < a → ¬ L j = l) (hsd : ∀ w, w < W → Lb (sd w) 26) : sm (fun its => sm (wd L l W (als ok sd its) n).2 W) 26 = sm (fun w => if ok a w = true then cm L l W n ok sd (n - (a + 1)) w else 0) W := by
  rw [show (fun its => sm (wd L l W (als ok sd its) n).2 W) = (fun its => sm (fun w => if als ok sd its a w = true then cm L l W n ok sd (n - (a + 1)) w else 0) W) from funext fun its => wd_first ha han hf its, sm_swap]
  refine sm_cg fun w hw => ?_
  show sm (fun its => if als ok sd its a w = true then _ else 0) 26 = _
  obtain ⟨t, ht, et⟩ := hsd w hw
  by_cases o : ok a w = true
  · rw [if_pos o]
    refine Eq.trans (sm_cg fun its hi => ?_) (sm_one (x := fun _ => cm L l W n ok sd (n - (a + 1)) w) ht)
    show (if als ok sd its a w = true then _ else 0) = if its = t then _ else 0
    unfold als
    by_cases e : its = t
    · rw [if_pos e, if_pos (by simp [o, e, et])]
    · rw [if_neg e, if_neg]
      intro q
      simp only [Bool.and_eq_true, decide_eq_true_eq] at q
      rw [et, nI_eq (by omega) (by omega)] at q
      exact e q.2.symm
  · rw [if_neg o]
    refine sm_0 fun its _ => ?_
    show (if als ok sd its a w = true then _ else 0) = 0
    rw [if_neg]
    unfold als
    intro q
    simp only [Bool.and_eq_true] at q
    exact o q.1
