/-! ===== the least on from a word; the row that takes the first of the cheapest ===== -/
/-- the least over the last k lines of n, on from a word -/
def lc (L : Nat → Nat) (l W n : Nat) (ok : Nat → Nat → Bool) (sd : Nat → Int32) (co : Nat → Nat → Nat) : Nat → Nat → Nat
  | 0 => fun _ => 0
  | k + 1 => if L (n - (k + 1)) = l then fun w => mv (fun v => if (rhv sd w v && ok (n - (k + 1)) v) = true then lc L l W n ok sd co k v + co (n - (k + 1)) v else 1000) W else lc L l W n ok sd co k
/-- what the class holds at a line's word -/
def ck (L : Nat → Nat) (W n : Nat) (ok : Nat → Nat → Bool) (sd : Nat → Int32) (co : Nat → Nat → Nat) (i w : Nat) : Nat := if ok i w = true then (if 1000 < lc L (L i) W n ok sd co (n - (i + 1)) w + co i w then 1000 else lc L (L i) W n ok sd co (n - (i + 1)) w + co i w) else 1000
def tl (L : Nat → Nat) (l : Nat) (co : Nat → Nat → Nat) (r : Nat → Nat) (n : Nat) : Nat → Nat
  | 0 => 0
  | k + 1 => if L (n - (k + 1)) = l then co (n - (k + 1)) (r (n - (k + 1))) + tl L l co r n k else tl L l co r n k
theorem hd_tl {L : Nat → Nat} {l : Nat} {co : Nat → Nat → Nat} {r : Nat → Nat} {n : Nat} : ∀ k, k ≤ n → hd L l co r (n - k) + tl L l co r n k = hd L l co r n := by
  intro k
  induction k with
  | zero => intro _; rfl
  | succ k ih =>
    intro h
    have e := ih (by omega)
    rw [show n - k = (n - (k + 1)) + 1 from by omega, hd] at e
    rw [tl]
    by_cases c : L (n - (k + 1)) = l
    · rw [if_pos c] at e ⊢; omega
    · rw [if_neg c] at e ⊢; omega
theorem tl_bd {L : Nat → Nat} {l : Nat} {co : Nat → Nat → Nat} {r : Nat → Nat} {n : Nat} (hco : ∀ i w, co i w ≤ 1) : ∀ k, tl L l co r n k ≤ k := by
  intro k
  induction k with
  | zero => exact Nat.le_refl _
  | succ k ih =>
    rw [tl]
    have := hco (n - (k + 1)) (r (n - (k + 1)))
    split <;> omega
theorem rhv_iff {sd : Nat → Int32} {a b : Nat} : rhv sd a b = true ↔ ¬ a = b ∧ sd a = sd b := by
  unfold rhv
  simp
theorem mv_cap {g h : Nat → Nat} : ∀ {W : Nat}, (∀ v, v < W → g v = h v ∨ (1000 ≤ g v ∧ 1000 ≤ h v)) → mv g W = mv h W := by
  intro W
  induction W with
  | zero => intro _; rfl
  | succ W ih =>
    intro q
    have e := ih fun v hv => q v (by omega)
    have b := mv_le g W
    rw [mv, mv, e]
    rw [e] at b
    rcases q W (by omega) with c | c
    · rw [c]
    · rw [if_neg (by omega), if_neg (by omega)]
theorem lc_skip {L : Nat → Nat} {l W n : Nat} {ok : Nat → Nat → Bool} {sd : Nat → Int32} {co : Nat → Nat → Nat} : ∀ g a, (∀ m, a ≤ m → m < a + g → ¬ L m = l) → a + g ≤ n → lc L l W n ok sd co (n - a) = lc L l W n ok sd co (n - (a + g)) := by
  intro g
  induction g with
  | zero => intro a _ _; rfl
  | succ g ih =>
    intro a h hn
    obtain ⟨k, hk⟩ : ∃ k, n - a = k + 1 := ⟨n - a - 1, by omega⟩
    rw [hk, lc, show n - (k + 1) = a from by omega, if_neg (h a (by omega) (by omega)), show k = n - (a + 1) from by omega, ih (a + 1) (fun m h1 h2 => h m (by omega) (by omega)) (by omega), show a + 1 + g = a + (g + 1) from by omega]
/-- the line behind: the least over its words -/
theorem lc_ah {L : Nat → Nat} {W n i j : Nat} {ok : Nat → Nat → Bool} {sd : Nat → Int32} {co : Nat → Nat → Nat} (j1 : i < j) (j2 : j < n) (j3 : L j = L i) (j4 : ∀ m, i < m → m < j → ¬ L m = L i) (w : Nat) : lc L (L i) W n ok sd co (n - (i + 1)) w = mv (fun v => if rhv sd w v = true then ck L W n ok sd co j v else 1000) W := by
  rw [lc_skip (j - (i + 1)) (i + 1) (fun m h1 h2 => j4 m (by omega) (by omega)) (by omega), show n - (i + 1 + (j - (i + 1))) = (n - (j + 1)) + 1 from by omega, lc, show n - (n - (j + 1) + 1) = j from by omega, if_pos j3]
  refine mv_cap fun v _ => ?_
  show (if (rhv sd w v && ok j v) = true then _ else 1000) = (if rhv sd w v = true then _ else 1000) ∨ (1000 ≤ (if (rhv sd w v && ok j v) = true then _ else 1000) ∧ 1000 ≤ (if rhv sd w v = true then _ else 1000))
  unfold ck
  rw [j3]
  by_cases a : rhv sd w v = true
  · rw [a, Bool.true_and, if_pos rfl]
    by_cases b : ok j v = true
    · rw [if_pos b, if_pos b]
      by_cases c : 1000 < lc L (L i) W n ok sd co (n - (j + 1)) v + co j v
      · rw [if_pos c]; exact Or.inr ⟨by omega, Nat.le_refl _⟩
      · rw [if_neg c]; exact Or.inl rfl
    · rw [if_neg b, if_neg b]; exact Or.inl rfl
  · rw [if_neg a, if_neg (by simp [a])]; exact Or.inl rfl
theorem lc_bh {L : Nat → Nat} {W n i : Nat} {ok : Nat → Nat → Bool} {sd : Nat → Int32} {co : Nat → Nat → Nat} {r : Int32} (hi : i < n) (hb : bhS L n i r) (w : Nat) : (r = -1 ∧ lc L (L i) W n ok sd co (n - (i + 1)) w = 0) ∨ ∃ j, i < j ∧ j < n ∧ r = nI j ∧ lc L (L i) W n ok sd co (n - (i + 1)) w = mv (fun v => if rhv sd w v = true then ck L W n ok sd co j v else 1000) W := by
  rcases hb with ⟨e, h⟩ | ⟨j, j1, j2, j3, j4, e⟩
  · refine Or.inl ⟨e, ?_⟩
    rw [lc_skip (n - (i + 1)) (i + 1) (fun m h1 h2 => h m (by omega) (by omega)) (by omega), show n - (i + 1 + (n - (i + 1))) = 0 from by omega, lc]
  · exact Or.inr ⟨j, j1, j2, e, lc_ah j1 j2 j3 j4 w⟩
theorem ck_bd {L : Nat → Nat} {W n : Nat} {ok : Nat → Nat → Bool} {sd : Nat → Int32} {co : Nat → Nat → Nat} {i w : Nat} : ck L W n ok sd co i w ≤ 1000 := by
  unfold ck
  split
  · split <;> omega
  · exact Nat.le_refl _
theorem ck_lt {L : Nat → Nat} {W n : Nat} {ok : Nat → Nat → Bool} {sd : Nat → Int32} {co : Nat → Nat → Nat} {i w : Nat} (h : ck L W n ok sd co i w < 1000) : ok i w = true ∧ ck L W n ok sd co i w = lc L (L i) W n ok sd co (n - (i + 1)) w + co i w := by
  unfold ck at h ⊢
  by_cases a : ok i w = true
  · rw [if_pos a] at h ⊢
    by_cases c : 1000 < lc L (L i) W n ok sd co (n - (i + 1)) w + co i w
    · rw [if_pos c] at h; omega
    · rw [if_neg c]; exact ⟨a, rfl⟩
  · rw [if_neg a] at h; omega
/-- every row that rhymes costs that much at least -/
theorem lc_le {L : Nat → Nat} {l W n : Nat} {ok : Nat → Nat → Bool} {sd : Nat → Int32} {its : Nat} {r : Nat → Nat} {co : Nat → Nat → Nat} (h : VS L l W n ok sd its r) : ∀ k, k ≤ n → ∀ u, sd u = nI its → (∀ i, n - k ≤ i → i < n → L i = l → (∀ m, n - k ≤ m → m < i → ¬ L m = l) → ¬ u = r i) → lc L l W n ok sd co k u ≤ tl L l co r n k := by
  intro k
  induction k with
  | zero => intro _ u _ _; exact Nat.le_refl _
  | succ k ih =>
    intro hk u hu hc
    obtain ⟨i, hi⟩ : ∃ i, i = n - (k + 1) := ⟨_, rfl⟩
    have hi2 : n - k = i + 1 := by omega
    rw [lc, tl, ← hi]
    rw [← hi] at hc
    by_cases c : L i = l
    · rw [if_pos c, if_pos c]
      obtain ⟨h1, h2, h3, -⟩ := h i (by omega) c
      refine Nat.le_trans (mv_at h1) ?_
      show (if (rhv sd u (r i) && ok i (r i)) = true then lc L l W n ok sd co k (r i) + co i (r i) else 1000) ≤ _
      rw [if_pos (by rw [h2, Bool.and_true]; exact rhv_iff.mpr ⟨hc i (Nat.le_refl _) (by omega) c fun m h1 h2 => by omega, by rw [hu, h3]⟩)]
      have := ih (by omega) (r i) h3 fun j j1 j2 j3 j4 => by
        rw [hi2] at j1 j4
        exact (h j j2 j3).2.2.2 i (by omega) c fun m m1 m2 => j4 m (by omega) m2
      omega
    · rw [if_neg c, if_neg c]
      refine ih (by omega) u hu fun j j1 j2 j3 j4 => ?_
      rw [hi2] at j1 j4
      refine hc j (by omega) j2 j3 fun m m1 m2 => ?_
      by_cases e : m = i
      · rw [e]; exact c
      · exact j4 m (by omega) m2
theorem ck_le {L : Nat → Nat} {W n : Nat} {ok : Nat → Nat → Bool} {sd : Nat → Int32} {its : Nat} {r : Nat → Nat} {co : Nat → Nat → Nat} {i : Nat} (h : VS L (L i) W n ok sd its r) (hi : i < n) : ck L W n ok sd co i (r i) ≤ co i (r i) + tl L (L i) co r n (n - (i + 1)) := by
  obtain ⟨h1, h2, h3, -⟩ := h i hi rfl
  have e := lc_le (co := co) h (n - (i + 1)) (by omega) (r i) h3 fun j j1 j2 j3 j4 => by
    rw [show n - (n - (i + 1)) = i + 1 from by omega] at j1 j4
    exact (h j j2 j3).2.2.2 i (by omega) rfl fun m m1 m2 => j4 m (by omega) m2
  unfold ck
  rw [if_pos h2]
  split <;> omega
/-- the first of the cheapest words of a line that rhyme with the word ahead -/
def GR (L : Nat → Nat) (W n : Nat) (ok : Nat → Nat → Bool) (sd : Nat → Int32) (co : Nat → Nat → Nat) (R : Nat → Nat) (i : Nat) : Prop := R i < W ∧ ck L W n ok sd co i (R i) < 1000 ∧ (((∀ j, j < i → ¬ L j = L i) ∧ (∀ v, v < W → ck L W n ok sd co i (R i) ≤ ck L W n ok sd co i v) ∧ ∀ v, v < R i → ck L W n ok sd co i (R i) < ck L W n ok sd co i v) ∨ ∃ a, a < i ∧ L a = L i ∧ (∀ m, a < m → m < i → ¬ L m = L i) ∧ rhv sd (R a) (R i) = true ∧ (∀ v, v < W → rhv sd (R a) v = true → ck L W n ok sd co i (R i) ≤ ck L W n ok sd co i v) ∧ ∀ v, v < R i → rhv sd (R a) v = true → ck L W n ok sd co i (R i) < ck L W n ok sd co i v)
theorem GR_cg {L : Nat → Nat} {W n : Nat} {ok : Nat → Nat → Bool} {sd : Nat → Int32} {co : Nat → Nat → Nat} {R R2 : Nat → Nat} {i : Nat} (h : GR L W n ok sd co R i) (e : ∀ j, j ≤ i → R2 j = R j) : GR L W n ok sd co R2 i := by
  obtain ⟨h1, h2, h3⟩ := h
  unfold GR
  rw [e i (Nat.le_refl i)]
  refine ⟨h1, h2, ?_⟩
  rcases h3 with q | ⟨a, a1, q⟩
  · exact Or.inl q
  · exact Or.inr ⟨a, a1, by rw [e a (by omega)]; exact q⟩
theorem gr_lc {L : Nat → Nat} {l W n : Nat} {ok : Nat → Nat → Bool} {sd : Nat → Int32} {co : Nat → Nat → Nat} {R : Nat → Nat} (hG : ∀ i, i < n → GR L W n ok sd co R i) : ∀ k, k ≤ n → ∀ a, a < n - k → L a = l → (∀ m, a < m → m < n - k → ¬ L m = l) → lc L l W n ok sd co k (R a) < 1000 → lc L l W n ok sd co k (R a) = tl L l co R n k := by
  intro k
  induction k with
  | zero => intro _ a _ _ _ _; rfl
  | succ k ih =>
    intro hk a ha hla hm h
    obtain ⟨i, hi⟩ : ∃ i, i = n - (k + 1) := ⟨_, rfl⟩
    have hi2 : n - k = i + 1 := by omega
    rw [lc, ← hi] at h
    rw [lc, tl, ← hi]
    rw [← hi] at ha hm
    by_cases c : L i = l
    · rw [if_pos c] at h ⊢
      rw [if_pos c]
      have h : mv (fun v => if (rhv sd (R a) v && ok i v) = true then lc L l W n ok sd co k v + co i v else 1000) W < 1000 := h
      show mv (fun v => if (rhv sd (R a) v && ok i v) = true then lc L l W n ok sd co k v + co i v else 1000) W = _
      obtain ⟨g1, g2, g3⟩ := hG i (by omega)
      obtain ⟨g4, g5, g6⟩ : rhv sd (R a) (R i) = true ∧ (∀ v, v < W → rhv sd (R a) v = true → ck L W n ok sd co i (R i) ≤ ck L W n ok sd co i v) ∧ True := by
        rcases g3 with ⟨q, -⟩ | ⟨b, b1, b2, b3, b4, b5, -⟩
        · exact absurd (by rw [hla, c]) (q a ha)
        · obtain rfl : a = b := by
            rcases Nat.lt_trichotomy a b with q | q | q
            · exact absurd (by rw [b2, c]) (hm b q b1)
            · exact q
            · exact absurd (by rw [hla, c]) (b3 a q ha)
          exact ⟨b4, b5, trivial⟩
      have hkk : n - (i + 1) = k := by omega
      obtain ⟨o1, o2⟩ := ck_lt g2
      rw [hkk, c] at o2
      obtain ⟨v, hv, ev⟩ := mv_att h
      have up := mv_at (g := fun v => if (rhv sd (R a) v && ok i v) = true then lc L l W n ok sd co k v + co i v else 1000) g1
      have e1 : (if (rhv sd (R a) (R i) && ok i (R i)) = true then lc L l W n ok sd co k (R i) + co i (R i) else 1000) = lc L l W n ok sd co k (R i) + co i (R i) := if_pos (by rw [g4, o1]; rfl)
      have up : mv (fun v => if (rhv sd (R a) v && ok i v) = true then lc L l W n ok sd co k v + co i v else 1000) W ≤ (if (rhv sd (R a) (R i) && ok i (R i)) = true then lc L l W n ok sd co k (R i) + co i (R i) else 1000) := up
      rw [e1] at up
      have ev : (if (rhv sd (R a) v && ok i v) = true then lc L l W n ok sd co k v + co i v else 1000) = mv (fun v => if (rhv sd (R a) v && ok i v) = true then lc L l W n ok sd co k v + co i v else 1000) W := ev
      have lo : lc L l W n ok sd co k (R i) + co i (R i) ≤ mv (fun v => if (rhv sd (R a) v && ok i v) = true then lc L l W n ok sd co k v + co i v else 1000) W := by
        rw [← ev] at h ⊢
        by_cases q : (rhv sd (R a) v && ok i v) = true
        · rw [if_pos q] at h ⊢
          rw [Bool.and_eq_true] at q
          have g7 := g5 v hv q.1
          have e2 : ck L W n ok sd co i v = lc L l W n ok sd co k v + co i v := by
            unfold ck
            rw [if_pos q.2, hkk, c, if_neg (by omega)]
          omega
        · rw [if_neg q] at h; omega
      have := ih (by omega) i (by omega) c (fun m m1 m2 => by omega) (by omega)
      omega
    · rw [if_neg c] at h ⊢
      rw [if_neg c]
      exact ih (by omega) a (by omega) hla (fun m m1 m2 => by
        by_cases e : m = i
        · rw [e]; exact c
        · exact hm m m1 (by omega)) h
theorem gr_ck {L : Nat → Nat} {W n : Nat} {ok : Nat → Nat → Bool} {sd : Nat → Int32} {co : Nat → Nat → Nat} {R : Nat → Nat} (hG : ∀ i, i < n → GR L W n ok sd co R i) {i : Nat} (hi : i < n) : ck L W n ok sd co i (R i) = co i (R i) + tl L (L i) co R n (n - (i + 1)) := by
  obtain ⟨-, g2, -⟩ := hG i hi
  obtain ⟨-, o2⟩ := ck_lt g2
  have := gr_lc hG (n - (i + 1)) (by omega) i (by omega) rfl (fun m m1 m2 => by omega) (by omega)
  omega
/-- it rhymes -/
theorem gr_VL {L : Nat → Nat} {W n : Nat} {ok : Nat → Nat → Bool} {sd : Nat → Int32} {co : Nat → Nat → Nat} {R : Nat → Nat} (hG : ∀ i, i < n → GR L W n ok sd co R i) (hsd : ∀ w, w < W → Lb (sd w) 26) : VL L W n ok sd R := by
  intro l _
  by_cases c : ∀ j, j < n → ¬ L j = l
  · exact ⟨0, by omega, fun i hi hl => absurd hl (c i hi)⟩
  · obtain ⟨a, a1, a2, a3⟩ := frst n c
    obtain ⟨t, ht, et⟩ := hsd (R a) (hG a a1).1
    have hs : ∀ g i, i < g → i < n → L i = l → sd (R i) = nI t := by
      intro g
      induction g with
      | zero => intro i h; omega
      | succ g ih =>
        intro i h hi hl
        rcases (hG i hi).2.2 with ⟨q, -⟩ | ⟨b, b1, b2, -, b4, -⟩
        · rcases Nat.lt_trichotomy a i with z | z | z
          · exact absurd (by rw [a2, hl]) (q a z)
          · rw [← z]; exact et
          · exact absurd hl (a3 i z)
        · rw [← (rhv_iff.mp b4).2]
          exact ih b (by omega) (by omega) (by rw [b2, hl])
    refine ⟨t, ht, fun i hi hl => ⟨(hG i hi).1, (ck_lt (hG i hi).2.1).1, hs (i + 1) i (by omega) hi hl, fun b b1 b2 b3 => ?_⟩⟩
    rcases (hG i hi).2.2 with ⟨q, -⟩ | ⟨d, d1, d2, d3, d4, -⟩
    · exact absurd (by rw [b2, hl]) (q b b1)
    · obtain rfl : b = d := by
        rcases Nat.lt_trichotomy b d with q | q | q
        · exact absurd (by rw [d2, hl]) (b3 d q d1)
        · exact q
        · exact absurd (by rw [b2, hl]) (d3 b q b1)
      exact (rhv_iff.mp d4).1
/-- none costs less -/
theorem gr_opt {L : Nat → Nat} {W n : Nat} {ok : Nat → Nat → Bool} {sd : Nat → Int32} {co : Nat → Nat → Nat} {R r : Nat → Nat} (hG : ∀ i, i < n → GR L W n ok sd co R i) (hr : VL L W n ok sd r) : ∀ l, l < 8 → hd L l co R n ≤ hd L l co r n := by
  intro l hl
  by_cases c : ∀ j, j < n → ¬ L j = l
  · rw [hd_none n c]; exact Nat.zero_le _
  · obtain ⟨a, a1, a2, a3⟩ := frst n c
    obtain ⟨its, -, hv⟩ := hr l hl
    have e : ∀ x : Nat → Nat, hd L l co x n = co a (x a) + tl L l co x n (n - (a + 1)) := by
      intro x
      have q := hd_tl (L := L) (l := l) (co := co) (r := x) (n := n) (n - a) (by omega)
      rw [show n - (n - a) = a from by omega, hd_none a a3, show n - a = (n - (a + 1)) + 1 from by omega, tl, show n - (n - (a + 1) + 1) = a from by omega, if_pos a2] at q
      omega
    rw [e R, e r]
    have h1 := gr_ck hG a1
    rw [← a2] at hv
    have h2 := ck_le (co := co) hv a1
    rw [a2] at h1 h2
    have h3 : ck L W n ok sd co a (R a) ≤ ck L W n ok sd co a (r a) := by
      rcases (hG a a1).2.2 with ⟨-, q, -⟩ | ⟨b, b1, b2, -⟩
      · exact q (r a) (hv a a1 rfl).1
      · exact absurd (by rw [b2, a2]) (a3 b b1)
    omega
/-- of those that cost as little it is the first -/
theorem gr_lex {L : Nat → Nat} {W n : Nat} {ok : Nat → Nat → Bool} {sd : Nat → Int32} {co : Nat → Nat → Nat} {R r : Nat → Nat} (hL : ∀ i, i < n → L i < 8) (hG : ∀ i, i < n → GR L W n ok sd co R i) (hr : VL L W n ok sd r) (hc : cost L n co r ≤ cost L n co R) {j : Nat} (hj : j < n) (he : ∀ i, i < j → r i = R i) : ¬ r j < R j := by
  intro hlt
  have e := sm_same (gr_opt hG hr) hc (L j) (hL j hj)
  have e : hd L (L j) co r n = hd L (L j) co R n := e
  obtain ⟨its, -, hv⟩ := hr (L j) (hL j hj)
  have f : ∀ x : Nat → Nat, hd L (L j) co x n = hd L (L j) co x j + (co j (x j) + tl L (L j) co x n (n - (j + 1))) := by
    intro x
    have q := hd_tl (L := L) (l := L j) (co := co) (r := x) (n := n) (n - j) (by omega)
    rw [show n - (n - j) = j from by omega, show n - j = (n - (j + 1)) + 1 from by omega, tl, show n - (n - (j + 1) + 1) = j from by omega, if_pos rfl] at q
    omega
  rw [f r, f R, hd_cg (r2 := R) fun m hm _ => he m hm] at e
  have h1 := gr_ck hG hj
  have h2 := ck_le (co := co) hv hj
  have h3 : ck L W n ok sd co j (R j) < ck L W n ok sd co j (r j) := by
    rcases (hG j hj).2.2 with ⟨-, -, q⟩ | ⟨a, a1, a2, a3, -, -, q⟩
    · exact q (r j) hlt
    · obtain ⟨-, -, s3, s4⟩ := hv j hj rfl
      refine q (r j) hlt (rhv_iff.mpr ?_)
      rw [← he a a1]
      exact ⟨s4 a a1 a2 a3, by rw [(hv a (by omega) a2).2.2.1, s3]⟩
  omega
