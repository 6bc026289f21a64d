/-! ===== burnt: bounds, and one line narrowed ===== -/
def el (L : Nat → Nat) (l n : Nat) : Nat → Nat
  | 0 => 0
  | k + 1 => if L (n - (k + 1)) = l then el L l n k + 1 else el L l n k
theorem el_cl {L : Nat → Nat} {l n : Nat} : ∀ k, k ≤ n → cl L l (n - k) + el L l n k = cl L l n := by
  intro k
  induction k with
  | zero => intro _; rfl
  | succ k ih =>
    intro h
    have e := ih (by omega)
    rw [show n - k = (n - (k + 1)) + 1 from by omega, cl] at e
    rw [el]
    by_cases c : L (n - (k + 1)) = l
    · rw [if_pos c] at e ⊢; omega
    · rw [if_neg c] at e ⊢; omega
theorem sm_bd {g : Nat → Nat} {B : Nat} : ∀ {n : Nat}, (∀ v, v < n → g v ≤ B) → sm g n ≤ n * B := by
  intro n
  induction n with
  | zero => intro _; exact Nat.zero_le _
  | succ n ih =>
    intro h
    have h1 := ih fun v hv => h v (by omega)
    have h2 := h n (by omega)
    rw [sm, Nat.succ_mul]; omega
theorem sm_bd16 {g : Nat → Nat} {B n : Nat} (hn : n ≤ 16) (h : ∀ v, v < n → g v ≤ B) : sm g n ≤ 16 * B := Nat.le_trans (sm_bd h) (Nat.mul_le_mul_right B hn)
theorem cm_bd {L : Nat → Nat} {l W n : Nat} {ok : Nat → Nat → Bool} {sd : Nat → Int32} (h16 : W ≤ 16) : ∀ k w, cm L l W n ok sd k w ≤ 16 ^ el L l n k := by
  intro k
  induction k with
  | zero => intro w; exact Nat.le_refl _
  | succ k ih =>
    intro w
    rw [cm, el]
    by_cases c : L (n - (k + 1)) = l
    · rw [if_pos c, if_pos c, Nat.pow_succ, Nat.mul_comm]
      refine sm_bd16 h16 fun v _ => ?_
      split
      · exact ih v
      · exact Nat.zero_le _
    · rw [if_neg c, if_neg c]; exact ih w
theorem pr_bd {g e : Nat → Nat} : ∀ {n : Nat}, (∀ l, l < n → g l ≤ 16 ^ e l) → pr g n ≤ 16 ^ sm e n := by
  intro n
  induction n with
  | zero => intro _; exact Nat.le_refl _
  | succ n ih =>
    intro h
    rw [pr, sm, Nat.pow_add]
    exact Nat.mul_le_mul (ih fun l hl => h l (by omega)) (h n (by omega))
theorem cl_sum {L : Nat → Nat} : ∀ n, sm (fun l => cl L l n) 8 ≤ n := by
  intro n
  induction n with
  | zero => exact Nat.le_of_eq (sm_0 fun l _ => rfl)
  | succ n ih =>
    have e : ∀ m, sm (fun l => cl L l (n + 1)) m = sm (fun l => cl L l n) m + if L n < m then 1 else 0 := by
      intro m
      induction m with
      | zero => rfl
      | succ m im =>
        rw [sm, sm, im, cl]
        by_cases c : L n = m
        · rw [if_pos c, if_neg (by omega), if_pos (by omega)]; omega
        · rw [if_neg c]
          by_cases d : L n < m
          · rw [if_pos d, if_pos (by omega)]; omega
          · rw [if_neg d, if_neg (by omega)]; omega
    rw [e]
    split <;> omega
theorem bk_bd {L : Nat → Nat} {W n : Nat} {ok : Nat → Nat → Bool} {sd : Nat → Int32} (h16 : W ≤ 16) {i : Nat} (hi : i < n) (w : Nat) : bk L W n ok sd i w ≤ 16 ^ n := by
  unfold bk
  split
  · refine Nat.le_trans (cm_bd h16 _ _) (Nat.pow_le_pow_right (by decide) ?_)
    have h1 := el_cl (L := L) (l := L i) (n := n) (n - (i + 1)) (by omega)
    have h2 := wd_bd (L := L) (l := L i) (W := 0) (al := fun _ _ => false) n
    rw [wd_cl] at h2
    omega
  · exact Nat.zero_le _
theorem wa_bd {L : Nat → Nat} {W n : Nat} {ok : Nat → Nat → Bool} {sd : Nat → Int32} (h16 : W ≤ 16) (hsd : ∀ w, w < W → Lb (sd w) 26) : wa L W n (als ok sd) ≤ 16 ^ n := by
  unfold wa
  split
  · exact Nat.zero_le _
  · refine Nat.le_trans (pr_bd (e := fun l => cl L l n) fun l _ => ?_) (Nat.pow_le_pow_right (by decide) (cl_sum n))
    unfold wl
    by_cases c : cl L l n = 0
    · rw [if_pos c]; exact Nat.pow_pos (by decide)
    · rw [if_neg c]
      obtain ⟨a, ha, hl, hf⟩ : ∃ a, a < n ∧ L a = l ∧ cl L l a = 0 := by
        have : ∀ m, m ≤ n → ¬ cl L l m = 0 → ∃ a, a < n ∧ L a = l ∧ cl L l a = 0 := by
          intro m
          induction m with
          | zero => intro _ h; exact absurd rfl h
          | succ m im =>
            intro hm h
            by_cases e : cl L l m = 0
            · refine ⟨m, by omega, Decidable.byContradiction fun q => h ?_, e⟩
              rw [cl, if_neg q]; exact e
            · exact im (by omega) e
        exact this n (Nat.le_refl n) c
      have hw := wd_all (n := n) (ok := ok) (W := W) hl ha ((cl_0 a).mp hf) hsd
      have h1 := el_cl (L := L) (l := l) (n := n) (n - (a + 1)) (by omega)
      rw [show n - (n - (a + 1)) = a + 1 from by omega, cl, if_pos hl, hf] at h1
      refine Nat.le_trans (sm_mono (h := fun its => sm (wd L l W (als ok sd its) n).2 W) fun its _ => ?_) ?_
      · unfold wo
        split
        · exact Nat.zero_le _
        · exact Nat.le_refl _
      · rw [hw, ← h1, Nat.add_comm (0 + 1), Nat.zero_add, Nat.pow_succ, Nat.mul_comm]
        refine sm_bd16 h16 fun w _ => ?_
        split
        · exact cm_bd h16 _ _
        · exact Nat.zero_le _
theorem pr_pos {g : Nat → Nat} : ∀ {n : Nat}, 0 < pr g n ↔ ∀ l, l < n → 0 < g l := by
  intro n
  induction n with
  | zero => exact ⟨fun _ l h => by omega, fun _ => Nat.one_pos⟩
  | succ n ih =>
    rw [pr]
    constructor
    · intro h l hl
      by_cases c : l = n
      · rw [c]; exact Nat.pos_of_ne_zero fun e => by rw [e, Nat.mul_zero] at h; omega
      · exact ih.mp (Nat.pos_of_ne_zero fun e => by rw [e, Nat.zero_mul] at h; omega) l (by omega)
    · intro h
      exact Nat.mul_pos (ih.mpr fun l hl => h l (by omega)) (h n (by omega))
theorem wd_cg {L : Nat → Nat} {l W : Nat} {al al2 : Nat → Nat → Bool} : ∀ {i}, (∀ j, j < i → L j = l → ∀ w, w < W → al j w = al2 j w) → ∀ w, w < W → (wd L l W al i).2 w = (wd L l W al2 i).2 w := by
  intro i
  induction i with
  | zero => intro _ w _; rfl
  | succ i ih =>
    intro h w hw
    have hi := ih fun j hj => h j (by omega)
    rw [wd, wd]
    by_cases c : L i = l
    · rw [if_pos c, if_pos c]
      show (if al i w = true then (if (wd L l W al i).1 = 0 then 1 else _) else 0) = (if al2 i w = true then (if (wd L l W al2 i).1 = 0 then 1 else _) else 0)
      rw [wd_cnt L l W al al2 i, h i (by omega) c w hw, sm_cg fun v hv => show (if v = w then 0 else (wd L l W al i).2 v) = (if v = w then 0 else (wd L l W al2 i).2 v) from by rw [hi v hv]]
    · rw [if_neg c, if_neg c]; exact hi w hw
theorem cm_cg {L : Nat → Nat} {l W n : Nat} {ok ok2 : Nat → Nat → Bool} {sd : Nat → Int32} : ∀ {k}, (∀ j, n - k ≤ j → L j = l → ∀ w, w < W → ok j w = ok2 j w) → ∀ w, cm L l W n ok sd k w = cm L l W n ok2 sd k w := by
  intro k
  induction k with
  | zero => intro _ w; rfl
  | succ k ih =>
    intro h w
    have hi := ih fun j hj => h j (by omega)
    rw [cm, cm]
    by_cases c : L (n - (k + 1)) = l
    · rw [if_pos c, if_pos c]
      exact sm_cg fun v hv => by rw [h _ (Nat.le_refl _) c v hv, hi v]
    · rw [if_neg c, if_neg c]; exact hi w
/-- the ways to a word of a line, from the front -/
def fw (L : Nat → Nat) (W : Nat) (ok : Nat → Nat → Bool) (sd : Nat → Int32) (i w : Nat) : Nat := (wd L (L i) W (als ok sd (cn (sd w))) (i + 1)).2 w
/-- line i narrowed to w: the ways of its letter and a sound -/
theorem nar_its {L : Nat → Nat} {W n : Nat} {ok : Nat → Nat → Bool} {sd : Nat → Int32} {i w : Nat} (hi : i < n) (hw : w < W) (its : Nat) : sm (wd L (L i) W (als (one ok i w) sd its) n).2 W = (wd L (L i) W (als ok sd its) (i + 1)).2 w * cm L (L i) W n ok sd (n - (i + 1)) w := by
  rw [← wT_to (n := n) (ok := one ok i w) (sd := sd) (its := its) (W := W) (l := L i) rfl (n - (i + 1)) (by omega)]
  unfold wT
  rw [show n - (n - (i + 1)) = i + 1 from by omega]
  refine Eq.trans (sm_cg fun v hv => ?_) (sm_one (x := fun _ => (wd L (L i) W (als ok sd its) (i + 1)).2 w * cm L (L i) W n ok sd (n - (i + 1)) w) hw)
  show (wd L (L i) W (als (one ok i w) sd its) (i + 1)).2 v * cm L (L i) W n (one ok i w) sd (n - (i + 1)) v = if v = w then _ else 0
  rw [cm_cg (ok := one ok i w) (ok2 := ok) fun j hj _ v _ => by unfold one; rw [if_neg (by omega)], wd, wd, if_pos rfl, if_pos rfl]
  show (if als (one ok i w) sd its i v = true then _ else 0) * _ = if v = w then (if als ok sd its i w = true then _ else 0) * _ else 0
  by_cases e : v = w
  · have e1 : als (one ok i w) sd its i v = als ok sd its i w := by
      unfold als one
      rw [if_pos rfl, e]; simp
    rw [if_pos e, e1, e, wd_cnt L (L i) W (als (one ok i w) sd its) (als ok sd its) i, sm_cg fun u hu => show (if u = w then 0 else (wd L (L i) W (als (one ok i w) sd its) i).2 u) = (if u = w then 0 else (wd L (L i) W (als ok sd its) i).2 u) from by rw [wd_cg (al := als (one ok i w) sd its) (al2 := als ok sd its) (fun j hj _ v _ => by unfold als one; rw [if_neg (by omega)]) u hu]]
  · rw [if_neg e, if_neg, Nat.zero_mul]
    unfold als one
    rw [if_pos rfl]
    simp [e]
/-- some way with the word there: from the front and on -/
theorem nar_pos {L : Nat → Nat} {W n : Nat} {ok : Nat → Nat → Bool} {sd : Nat → Int32} {i w : Nat} (hL : ∀ i, i < n → L i < 8) (hsd : ∀ w, w < W → Lb (sd w) 26) (hp : PRS L n) (hi : i < n) (hw : w < W) : 0 < wa L W n (als (one ok i w) sd) ↔ 0 < wa L W n (als ok sd) ∧ 0 < fw L W ok sd i w * cm L (L i) W n ok sd (n - (i + 1)) w := by
  obtain ⟨t, ht, et⟩ := hsd w hw
  have ct : cn (sd w) = t := by rw [et, cn_nI (by omega)]
  have hn : ¬ n = 0 := by omega
  -- the letters' numbers of lines
  have h2 : 1 < cl L (L i) n := by
    obtain ⟨j, j1, j2, j3⟩ := hp.2 i hi
    rcases Nat.lt_or_ge j i with q | q
    · exact cl_2 q j3 rfl n hi
    · exact cl_2 (by omega) rfl j3 n j1
  have hwl : ∀ al : Nat → Nat → Nat → Bool, wl L W n al (L i) = sm (fun its => sm (wd L (L i) W (al its) n).2 W) 26 := by
    intro al
    unfold wl
    rw [if_neg (by omega)]
    refine sm_cg fun its _ => ?_
    unfold wo
    rw [wd_cl, if_neg (by omega)]
  have hot : ∀ l, ¬ l = L i → wl L W n (als (one ok i w) sd) l = wl L W n (als ok sd) l := by
    intro l hl
    unfold wl wo
    rw [sm_cg fun its _ => show (if (wd L l W (als (one ok i w) sd its) n).1 ≤ 1 then 0 else sm (wd L l W (als (one ok i w) sd its) n).2 W) = (if (wd L l W (als ok sd its) n).1 ≤ 1 then 0 else sm (wd L l W (als ok sd its) n).2 W) from by
      rw [wd_cnt L l W (als (one ok i w) sd its) (als ok sd its) n, sm_cg (wd_cg (al := als (one ok i w) sd its) (al2 := als ok sd its) fun j hj hjl v _ => by unfold als one; rw [if_neg (fun e : j = i => hl (by rw [← hjl, e]))])]]
  have hin : wl L W n (als (one ok i w) sd) (L i) = fw L W ok sd i w * cm L (L i) W n ok sd (n - (i + 1)) w := by
    rw [hwl, sm_cg fun its _ => nar_its (ok := ok) (sd := sd) hi hw its]
    unfold fw
    rw [ct]
    refine Eq.trans (sm_cg fun its hits => ?_) (sm_one (x := fun its => (wd L (L i) W (als ok sd its) (i + 1)).2 w * cm L (L i) W n ok sd (n - (i + 1)) w) ht)
    show _ = if its = t then _ else 0
    by_cases e : its = t
    · rw [if_pos e]
    · rw [if_neg e]
      by_cases z : (wd L (L i) W (als ok sd its) (i + 1)).2 w = 0
      · rw [z, Nat.zero_mul]
      · have := wd_sup (i + 1) w z
        rw [et, nI_eq (by omega) (by omega)] at this
        exact absurd this.symm e
  have hle : 0 < fw L W ok sd i w * cm L (L i) W n ok sd (n - (i + 1)) w → 0 < wl L W n (als ok sd) (L i) := by
    intro q
    rw [hwl]
    refine Nat.lt_of_lt_of_le q ?_
    refine Nat.le_trans ?_ (sm_at (g := fun its => sm (wd L (L i) W (als ok sd its) n).2 W) ht)
    show _ ≤ sm (wd L (L i) W (als ok sd t) n).2 W
    rw [← wT_to (n := n) (ok := ok) (sd := sd) (its := t) (W := W) (l := L i) rfl (n - (i + 1)) (by omega)]
    unfold wT fw
    rw [ct, show n - (n - (i + 1)) = i + 1 from by omega]
    exact sm_at (g := fun v => (wd L (L i) W (als ok sd t) (i + 1)).2 v * cm L (L i) W n ok sd (n - (i + 1)) v) hw
  unfold wa
  rw [if_neg hn, if_neg hn, pr_pos, pr_pos]
  constructor
  · intro q
    have q1 := q (L i) (hL i hi)
    rw [hin] at q1
    refine ⟨fun l hl => ?_, q1⟩
    by_cases e : l = L i
    · rw [e]; exact hle q1
    · rw [← hot l e]; exact q l hl
  · intro ⟨q1, q2⟩ l hl
    by_cases e : l = L i
    · rw [e, hin]; exact q2
    · rw [hot l e]; exact q1 l hl
