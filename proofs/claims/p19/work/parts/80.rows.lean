/-! ===== rows of words: the fewest of the reference ===== -/
def als (ok : Nat → Nat → Bool) (sd : Nat → Int32) (its : Nat) (i w : Nat) : Bool := ok i w && decide (sd w = nI its)
def cl (L : Nat → Nat) (l : Nat) : Nat → Nat
  | 0 => 0
  | i + 1 => if L i = l then cl L l i + 1 else cl L l i
theorem cl_0 {L : Nat → Nat} {l : Nat} : ∀ i, cl L l i = 0 ↔ ∀ j, j < i → ¬ L j = l := by
  intro i
  induction i with
  | zero => exact ⟨fun _ j h => by omega, fun _ => rfl⟩
  | succ i ih =>
    rw [cl]
    by_cases c : L i = l
    · rw [if_pos c]
      exact ⟨fun h => by omega, fun h => absurd c (h i (by omega))⟩
    · rw [if_neg c, ih]
      refine ⟨fun h j hj => ?_, fun h j hj => h j (by omega)⟩
      by_cases e : j = i
      · rw [e]; exact c
      · exact h j (by omega)
theorem cl_2 {L : Nat → Nat} {l a b : Nat} (hab : a < b) (ha : L a = l) (hb : L b = l) : ∀ n, b < n → 1 < cl L l n := by
  have h1 : ∀ n, a < n → 0 < cl L l n := by
    intro n hn
    rcases Nat.eq_zero_or_pos (cl L l n) with e | e
    · exact absurd ha ((cl_0 n).mp e a hn)
    · exact e
  intro n
  induction n with
  | zero => intro h; omega
  | succ n ih =>
    intro h
    rw [cl]
    by_cases c : L n = l
    · rw [if_pos c]
      by_cases e : b = n
      · have := h1 n (by omega); omega
      · have := ih (by omega); omega
    · rw [if_neg c]
      refine ih ?_
      rcases Nat.lt_or_ge b n with q | q
      · exact q
      · exact absurd (by rw [show n = b from by omega]; exact hb) c
theorem cl_1 {L : Nat → Nat} {l : Nat} : ∀ n, 1 < cl L l n → ∃ a b, a < b ∧ b < n ∧ L a = l ∧ L b = l := by
  intro n
  induction n with
  | zero => intro h; rw [cl] at h; omega
  | succ n ih =>
    intro h
    rw [cl] at h
    by_cases c : L n = l
    · rw [if_pos c] at h
      by_cases e : cl L l n = 0
      · omega
      · obtain ⟨a, ha⟩ : ∃ a, a < n ∧ L a = l := by
          refine Decidable.byContradiction fun q => e ((cl_0 n).mpr fun j hj hl => q ⟨j, hj, hl⟩)
        exact ⟨a, n, ha.1, by omega, ha.2, c⟩
    · rw [if_neg c] at h
      obtain ⟨a, b, q1, q2, q3, q4⟩ := ih h
      exact ⟨a, b, q1, by omega, q3, q4⟩
theorem dp_cl {L : Nat → Nat} {l W : Nat} {al : Nat → Nat → Bool} {co : Nat → Nat → Nat} : ∀ i, (dp L l W al co i).1 = cl L l i := by
  intro i
  induction i with
  | zero => rfl
  | succ i ih =>
    rw [dp, cl]
    by_cases c : L i = l
    · rw [if_pos c, if_pos c]; show _ + 1 = _ + 1; rw [ih]
    · rw [if_neg c, if_neg c]; exact ih
theorem dp_none {L : Nat → Nat} {l W : Nat} {al : Nat → Nat → Bool} {co : Nat → Nat → Nat} : ∀ i, (∀ j, j < i → ¬ L j = l) → dp L l W al co i = (0, fun _ => 0) := by
  intro i
  induction i with
  | zero => intro _; rfl
  | succ i ih => intro h; rw [dp, if_neg (h i (by omega))]; exact ih fun j hj => h j (by omega)
/-- the nearest line of a letter ahead -/
theorem near {L : Nat → Nat} {l : Nat} : ∀ i, ¬ (∀ j, j < i → ¬ L j = l) → ∃ a, a < i ∧ L a = l ∧ ∀ m, a < m → m < i → ¬ L m = l := by
  intro i
  induction i with
  | zero => intro h; exact absurd (fun j hj => by omega) h
  | succ i ih =>
    intro h
    by_cases c : L i = l
    · exact ⟨i, by omega, c, fun m h1 h2 => by omega⟩
    · obtain ⟨a, a1, a2, a3⟩ := ih fun q => h fun j hj => by
        by_cases e : j = i
        · rw [e]; exact c
        · exact q j (by omega)
      refine ⟨a, by omega, a2, fun m h1 h2 => ?_⟩
      by_cases e : m = i
      · rw [e]; exact c
      · exact a3 m h1 (by omega)
theorem frst {L : Nat → Nat} {l : Nat} : ∀ i, ¬ (∀ j, j < i → ¬ L j = l) → ∃ a, a < i ∧ L a = l ∧ ∀ j, j < a → ¬ L j = l := by
  intro i
  induction i with
  | zero => intro h; exact absurd (fun j hj => by omega) h
  | succ i ih =>
    intro h
    by_cases c : ∀ j, j < i → ¬ L j = l
    · refine ⟨i, by omega, Decidable.byContradiction fun q => h fun j hj => ?_, c⟩
      by_cases e : j = i
      · rw [e]; exact q
      · exact c j (by omega)
    · obtain ⟨a, a1, a2, a3⟩ := ih c
      exact ⟨a, by omega, a2, a3⟩
/-- what a row costs, the lines of a letter below i -/
def hd (L : Nat → Nat) (l : Nat) (co : Nat → Nat → Nat) (r : Nat → Nat) : Nat → Nat
  | 0 => 0
  | i + 1 => if L i = l then hd L l co r i + co i (r i) else hd L l co r i
theorem hd_none {L : Nat → Nat} {l : Nat} {co : Nat → Nat → Nat} {r : Nat → Nat} : ∀ i, (∀ j, j < i → ¬ L j = l) → hd L l co r i = 0 := by
  intro i
  induction i with
  | zero => intro _; rfl
  | succ i ih => intro h; rw [hd, if_neg (h i (by omega))]; exact ih fun j hj => h j (by omega)
theorem hd_cg {L : Nat → Nat} {l : Nat} {co : Nat → Nat → Nat} {r r2 : Nat → Nat} : ∀ {i}, (∀ m, m < i → L m = l → r m = r2 m) → hd L l co r i = hd L l co r2 i := by
  intro i
  induction i with
  | zero => intro _; rfl
  | succ i ih =>
    intro h
    rw [hd, hd, ih fun m hm => h m (by omega)]
    by_cases c : L i = l
    · rw [if_pos c, if_pos c, h i (by omega) c]
    · rw [if_neg c, if_neg c]
/-- a row that rhymes by a sound, the lines of a letter -/
def VS (L : Nat → Nat) (l W n : Nat) (ok : Nat → Nat → Bool) (sd : Nat → Int32) (its : Nat) (r : Nat → Nat) : Prop := ∀ i, i < n → L i = l → r i < W ∧ ok i (r i) = true ∧ sd (r i) = nI its ∧ ∀ a, a < i → L a = l → (∀ m, a < m → m < i → ¬ L m = l) → ¬ r a = r i
theorem VS_cg {L : Nat → Nat} {l W n : Nat} {ok : Nat → Nat → Bool} {sd : Nat → Int32} {its : Nat} {r r2 : Nat → Nat} (h : VS L l W n ok sd its r) (e : ∀ i, i < n → L i = l → r2 i = r i) : VS L l W n ok sd its r2 := by
  intro i hi hl
  obtain ⟨h1, h2, h3, h4⟩ := h i hi hl
  rw [e i hi hl]
  exact ⟨h1, h2, h3, fun a ha hla hm => by rw [e a (by omega) hla]; exact h4 a ha hla hm⟩
theorem VS_ok {L : Nat → Nat} {l W n : Nat} {ok ok2 : Nat → Nat → Bool} {sd : Nat → Int32} {its : Nat} {r : Nat → Nat} (h : VS L l W n ok sd its r) (e : ∀ i, i < n → L i = l → ok i (r i) = true → ok2 i (r i) = true) : VS L l W n ok2 sd its r := by
  intro i hi hl
  obtain ⟨h1, h2, h3, h4⟩ := h i hi hl
  exact ⟨h1, e i hi hl h2, h3, h4⟩
theorem dp_A {L : Nat → Nat} {l W n : Nat} {ok : Nat → Nat → Bool} {sd : Nat → Int32} {its : Nat} {r : Nat → Nat} {co : Nat → Nat → Nat} (h : VS L l W n ok sd its r) : ∀ i, i ≤ n → ∀ a, a < i → L a = l → (∀ m, a < m → m < i → ¬ L m = l) → (dp L l W (als ok sd its) co i).2 (r a) ≤ hd L l co r i := by
  intro i
  induction i with
  | zero => intro _ a ha; omega
  | succ i ih =>
    intro hi a ha hla hm
    by_cases c : L i = l
    · obtain rfl : a = i := by
        rcases Nat.lt_or_ge a i with q | q
        · exact absurd c (hm i q (by omega))
        · omega
      obtain ⟨h1, h2, h3, h4⟩ := h a (by omega) c
      rw [dp, if_pos c, hd, if_pos c]
      show nx W (dp L l W (als ok sd its) co a).1 (dp L l W (als ok sd its) co a).2 (als ok sd its a (r a)) (co a (r a)) (r a) ≤ _
      unfold nx
      rw [if_pos (show als ok sd its a (r a) = true from by unfold als; rw [h2, h3]; simp)]
      by_cases e : ∀ j, j < a → ¬ L j = l
      · rw [dp_none a e]
        refine Nat.le_trans (mv_at h1) ?_
        show (if (if (0 : Nat) = 0 then decide (r a = r a) else decide (¬ r a = r a)) = true then 0 + co a (r a) else 1000) ≤ _
        rw [if_pos (show (if (0 : Nat) = 0 then decide (r a = r a) else decide (¬ r a = r a)) = true from by simp)]
        omega
      · obtain ⟨b, b1, b2, b3⟩ := near a e
        have hk : ¬ (dp L l W (als ok sd its) co a).1 = 0 := by
          have := dp_pos (W := W) (al := als ok sd its) (co := co) b2 a b1
          omega
        refine Nat.le_trans (mv_at (h b (by omega) b2).1) ?_
        unfold nxg
        rw [if_neg hk, if_pos (decide_eq_true (h4 b b1 b2 b3))]
        have := ih (by omega) b b1 b2 b3
        omega
    · have hai : a < i := by
        rcases Nat.lt_or_ge a i with q | q
        · exact q
        · exact absurd (by rw [show i = a from by omega]; exact hla) c
      rw [dp, if_neg c, hd, if_neg c]
      exact ih (by omega) a hai hla fun m h1 h2 => hm m h1 (by omega)
theorem dp_B {L : Nat → Nat} {l W : Nat} {ok : Nat → Nat → Bool} {sd : Nat → Int32} {its : Nat} {co : Nat → Nat → Nat} : ∀ i w, w < W → ¬ (∀ j, j < i → ¬ L j = l) → (dp L l W (als ok sd its) co i).2 w < 1000 → ∃ r, VS L l W i ok sd its r ∧ (∀ a, a < i → L a = l → (∀ m, a < m → m < i → ¬ L m = l) → r a = w) ∧ hd L l co r i = (dp L l W (als ok sd its) co i).2 w := by
  intro i
  induction i with
  | zero => intro w _ h; exact absurd (fun j hj => by omega) h
  | succ i ih =>
    intro w hw hne h
    by_cases c : L i = l
    · have ed : (dp L l W (als ok sd its) co (i + 1)).2 w = nx W (dp L l W (als ok sd its) co i).1 (dp L l W (als ok sd its) co i).2 (als ok sd its i w) (co i w) w := by rw [dp, if_pos c]
      rw [ed] at h ⊢
      unfold nx at h ⊢
      by_cases d : als ok sd its i w = true
      · rw [if_pos d] at h ⊢
        have d2 := d
        unfold als at d2
        simp only [Bool.and_eq_true, decide_eq_true_eq] at d2
        obtain ⟨v, hv, ev⟩ := mv_att h
        rw [← ev] at h ⊢
        by_cases e : ∀ j, j < i → ¬ L j = l
        · rw [dp_none i e] at h ⊢
          have h : (if (if (0 : Nat) = 0 then decide (v = w) else decide (¬ v = w)) = true then 0 + co i w else 1000) < 1000 := h
          refine ⟨fun _ => w, fun j hj hl => ?_, fun _ _ _ _ => rfl, ?_⟩
          · obtain rfl : j = i := by
              rcases Nat.lt_or_ge j i with q | q
              · exact absurd hl (e j q)
              · omega
            exact ⟨hw, d2.1, d2.2, fun a ha hla _ => absurd hla (e a ha)⟩
          · show _ = (if (if (0 : Nat) = 0 then decide (v = w) else decide (¬ v = w)) = true then 0 + co i w else 1000)
            by_cases g : (if (0 : Nat) = 0 then decide (v = w) else decide (¬ v = w)) = true
            · rw [if_pos g, hd, if_pos c, hd_none i e]
            · rw [if_neg g] at h; omega
        · have hk : ¬ (dp L l W (als ok sd its) co i).1 = 0 := by
            rw [dp_cl]; exact fun q => e ((cl_0 i).mp q)
          unfold nxg at h ⊢
          rw [if_neg hk] at h ⊢
          by_cases g : decide (¬ v = w) = true
          · rw [if_pos g] at h ⊢
            obtain ⟨r, r1, r2, r3⟩ := ih v hv e (by omega)
            refine ⟨fun m => if m = i then w else r m, fun j hj hl => ?_, fun a ha hla hm => ?_, ?_⟩
            · show (if j = i then w else r j) < W ∧ ok j (if j = i then w else r j) = true ∧ sd (if j = i then w else r j) = nI its ∧ ∀ a, a < j → L a = l → (∀ m, a < m → m < j → ¬ L m = l) → ¬ (if a = i then w else r a) = (if j = i then w else r j)
              by_cases q : j = i
              · subst q
                rw [if_pos rfl]
                refine ⟨hw, d2.1, d2.2, fun a ha hla hm => ?_⟩
                rw [if_neg (by omega), r2 a ha hla hm]
                exact of_decide_eq_true g
              · rw [if_neg q]
                obtain ⟨s1, s2, s3, s4⟩ := r1 j (by omega) hl
                exact ⟨s1, s2, s3, fun a ha hla hm => by rw [if_neg (by omega)]; exact s4 a ha hla hm⟩
            · show (if a = i then w else r a) = w
              rcases Nat.lt_or_ge a i with q | q
              · exact absurd c (hm i q (by omega))
              · rw [if_pos (by omega)]
            · rw [hd, if_pos c, if_pos rfl, hd_cg (r := fun m => if m = i then w else r m) (r2 := r) fun m hm _ => if_neg (by omega), r3]
          · rw [if_neg g] at h; omega
      · rw [if_neg d] at h; omega
    · have e : ¬ (∀ j, j < i → ¬ L j = l) := fun q => hne fun j hj => by
        by_cases z : j = i
        · rw [z]; exact c
        · exact q j (by omega)
      rw [dp, if_neg c] at h ⊢
      obtain ⟨r, r1, r2, r3⟩ := ih w hw e h
      have ne : ∀ j, j < i + 1 → L j = l → j < i := by
        intro j hj hl
        rcases Nat.lt_or_ge j i with q | q
        · exact q
        · exact absurd (by rw [show i = j from by omega]; exact hl) c
      refine ⟨r, fun j hj hl => r1 j (ne j hj hl) hl, fun a ha hla hm => r2 a (ne a ha hla) hla fun m h1 h2 => hm m h1 (by omega), ?_⟩
      rw [hd, if_neg c]
      exact r3
/-- a row for all letters -/
def VL (L : Nat → Nat) (W n : Nat) (ok : Nat → Nat → Bool) (sd : Nat → Int32) (r : Nat → Nat) : Prop := ∀ l, l < 8 → ∃ its, its < 26 ∧ VS L l W n ok sd its r
def cost (L : Nat → Nat) (n : Nat) (co : Nat → Nat → Nat) (r : Nat → Nat) : Nat := sm (fun l => hd L l co r n) 8
theorem sm_mono {g h : Nat → Nat} : ∀ {n : Nat}, (∀ v, v < n → g v ≤ h v) → sm g n ≤ sm h n := by
  intro n
  induction n with
  | zero => intro _; exact Nat.le_refl _
  | succ n ih =>
    intro q
    have h1 := ih fun v hv => q v (by omega)
    have h2 := q n (by omega)
    rw [sm, sm]; omega
theorem sm_same {g h : Nat → Nat} : ∀ {n : Nat}, (∀ v, v < n → g v ≤ h v) → sm h n ≤ sm g n → ∀ v, v < n → h v = g v := by
  intro n
  induction n with
  | zero => intro _ _ v hv; omega
  | succ n ih =>
    intro q e v hv
    have h1 := sm_mono (n := n) fun v hv => q v (by omega)
    have h2 := q n (by omega)
    rw [sm, sm] at e
    by_cases c : v = n
    · rw [c]; omega
    · exact ih (fun v hv => q v (by omega)) (by omega) v (by omega)
theorem fl_A {L : Nat → Nat} {l W n : Nat} {ok : Nat → Nat → Bool} {sd : Nat → Int32} {its : Nat} {r : Nat → Nat} {co : Nat → Nat → Nat} (h : VS L l W n ok sd its r) (hi : its < 26) (h1 : ¬ cl L l n = 1) : fl8 L W n (als ok sd) co l ≤ hd L l co r n := by
  unfold fl8
  refine Nat.le_trans (mv_at hi) ?_
  show fo L W n (als ok sd its) co l ≤ _
  unfold fo
  rw [dp_cl]
  by_cases c : cl L l n = 0
  · rw [if_pos c]; exact Nat.zero_le _
  · rw [if_neg c, if_neg h1]
    obtain ⟨a, a1, a2, a3⟩ := near n fun q => c ((cl_0 n).mpr q)
    exact Nat.le_trans (mv_at (h a a1 a2).1) (dp_A h n (Nat.le_refl n) a a1 a2 a3)
theorem fl_B {L : Nat → Nat} {l W n : Nat} {ok : Nat → Nat → Bool} {sd : Nat → Int32} {co : Nat → Nat → Nat} (h : fl8 L W n (als ok sd) co l < 1000) : ¬ cl L l n = 1 ∧ ∃ its r, its < 26 ∧ VS L l W n ok sd its r ∧ hd L l co r n = fl8 L W n (als ok sd) co l := by
  unfold fl8 at h ⊢
  obtain ⟨its, h1, h2⟩ := mv_att h
  rw [← h2] at h ⊢
  have h : fo L W n (als ok sd its) co l < 1000 := h
  show _ ∧ ∃ its2 r, its2 < 26 ∧ VS L l W n ok sd its2 r ∧ hd L l co r n = fo L W n (als ok sd its) co l
  unfold fo at h ⊢
  rw [dp_cl] at h ⊢
  by_cases c : cl L l n = 0
  · have e := (cl_0 n).mp c
    rw [if_pos c]
    exact ⟨by omega, its, fun _ => 0, h1, fun i hi hl => absurd hl (e i hi), hd_none n e⟩
  · rw [if_neg c] at h ⊢
    by_cases d : cl L l n = 1
    · rw [if_pos d] at h; omega
    · rw [if_neg d] at h ⊢
      obtain ⟨w, hw, ew⟩ := mv_att h
      rw [← ew] at h ⊢
      obtain ⟨r, r1, -, r3⟩ := dp_B n w hw (fun q => c ((cl_0 n).mpr q)) h
      exact ⟨d, its, r, h1, r1, r3⟩
theorem fa_A {L : Nat → Nat} {W n : Nat} {ok : Nat → Nat → Bool} {sd : Nat → Int32} {r : Nat → Nat} {co : Nat → Nat → Nat} (h : VL L W n ok sd r) (h1 : ∀ l, l < 8 → ¬ cl L l n = 1) : fa L W n (als ok sd) co ≤ cost L n co r := by
  have e : sm (fl8 L W n (als ok sd) co) 8 ≤ cost L n co r := sm_mono fun l hl => by
    obtain ⟨its, i1, i2⟩ := h l hl
    exact fl_A i2 i1 (h1 l hl)
  unfold fa
  split <;> omega
theorem fa_B {L : Nat → Nat} {W n : Nat} {ok : Nat → Nat → Bool} {sd : Nat → Int32} {co : Nat → Nat → Nat} (hL : ∀ i, i < n → L i < 8) (h : fa L W n (als ok sd) co < 1000) : (∀ l, l < 8 → ¬ cl L l n = 1) ∧ ∃ r, VL L W n ok sd r ∧ cost L n co r = fa L W n (als ok sd) co := by
  have hs : sm (fl8 L W n (als ok sd) co) 8 < 1000 ∧ fa L W n (als ok sd) co = sm (fl8 L W n (als ok sd) co) 8 := by
    unfold fa at h ⊢
    split at h
    · omega
    · rename_i c
      exact ⟨h, if_neg c⟩
  have hl : ∀ l, l < 8 → fl8 L W n (als ok sd) co l < 1000 := fun l hl => by
    have := sm_at (g := fl8 L W n (als ok sd) co) hl
    omega
  refine ⟨fun l q => (fl_B (hl l q)).1, ?_⟩
  obtain ⟨g, hg⟩ := Classical.axiomOfChoice (r := fun (l : Nat) (p : Nat × (Nat → Nat)) => l < 8 → p.1 < 26 ∧ VS L l W n ok sd p.1 p.2 ∧ hd L l co p.2 n = fl8 L W n (als ok sd) co l) fun l => by
    by_cases c : l < 8
    · obtain ⟨-, its, r, q⟩ := fl_B (hl l c)
      exact ⟨(its, r), fun _ => q⟩
    · exact ⟨(0, fun _ => 0), fun q => absurd q c⟩
  refine ⟨fun i => (g (L i)).2 i, fun l q => ⟨(g l).1, (hg l q).1, VS_cg (hg l q).2.1 fun i _ e => by show (g (L i)).2 i = (g l).2 i; rw [e]⟩, ?_⟩
  rw [hs.2]
  unfold cost
  refine sm_cg fun l q => ?_
  rw [← (hg l q).2.2]
  exact hd_cg fun i _ e => by show (g (L i)).2 i = (g l).2 i; rw [e]
