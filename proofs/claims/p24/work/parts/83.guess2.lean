/-! ===== burnt: the class's ways, by first lines; the reference's, by letters ===== -/
theorem cl_0 {L : Nat → Nat} {l : Nat} : ∀ i, cl L l i = 0 ↔ ∀ j, j < i → ¬ L j = l := by
  intro i
  induction i with
  | zero => exact ⟨fun _ j h => by omega, fun _ => rfl⟩
  | succ i ih =>
    rw [cl]
    by_cases c : L i = l
    · rw [if_pos c]
      exact ⟨fun h => by omega, fun h => absurd c (h i (by omega))⟩
    · rw [if_neg c, ih]
      refine ⟨fun h j hj => ?_, fun h j hj => h j (by omega)⟩
      by_cases e : j = i
      · rw [e]; exact c
      · exact h j (by omega)
def pf (L : Nat → Nat) (n : Nat) (V : Nat → Nat) : Nat → Nat
  | 0 => 1
  | k + 1 => if cl L (L (n - (k + 1))) (n - (k + 1)) = 0 then pf L n V k * V (n - (k + 1)) else pf L n V k
theorem pr_cg {g h : Nat → Nat} : ∀ {n : Nat}, (∀ v, v < n → g v = h v) → pr g n = pr h n := by
  intro n
  induction n with
  | zero => intro _; rfl
  | succ n ih => intro q; rw [pr, pr, ih fun v hv => q v (by omega), q n (by omega)]
theorem pr_1 : ∀ {n : Nat} {g : Nat → Nat}, (∀ v, v < n → g v = 1) → pr g n = 1 := by
  intro n
  induction n with
  | zero => intro g _; rfl
  | succ n ih => intro g h; rw [pr, ih fun v hv => h v (by omega), h n (by omega)]
theorem pr_0 {g : Nat → Nat} {a : Nat} : ∀ {n : Nat}, a < n → g a = 0 → pr g n = 0 := by
  intro n
  induction n with
  | zero => intro h; omega
  | succ n ih =>
    intro h e
    rw [pr]
    by_cases c : a = n
    · rw [← c, e, Nat.mul_zero]
    · rw [ih (by omega) e, Nat.zero_mul]
theorem pr_upd {g h : Nat → Nat} {a x : Nat} (hg : g a = 1) (hh : h a = x) (ho : ∀ v, ¬ v = a → h v = g v) : ∀ {n : Nat}, a < n → pr h n = pr g n * x := by
  intro n
  induction n with
  | zero => intro q; omega
  | succ n ih =>
    intro q
    rw [pr, pr]
    by_cases c : a = n
    · rw [← c, hg, hh, Nat.mul_one, pr_cg fun v hv => ho v (by omega)]
    · rw [ih (by omega), ho n (by omega), Nat.mul_assoc, Nat.mul_comm x, ← Nat.mul_assoc]
/-- by first lines or by letters: the same product -/
theorem pf_pr {L : Nat → Nat} {n : Nat} {V h : Nat → Nat} (hL : ∀ i, i < n → L i < 8) (h1 : ∀ l, l < 8 → cl L l n = 0 → h l = 1) (h2 : ∀ a, a < n → cl L (L a) a = 0 → h (L a) = V a) : ∀ k, k ≤ n → pf L n V k = pr (fun l => if cl L l (n - k) = 0 then h l else 1) 8 := by
  intro k
  induction k with
  | zero =>
    intro _
    rw [pf]
    refine (pr_1 fun l hl => ?_).symm
    show (if cl L l n = 0 then h l else 1) = 1
    by_cases c : cl L l n = 0
    · rw [if_pos c]; exact h1 l hl c
    · exact if_neg c
  | succ k ih =>
    intro hk
    obtain ⟨i, hi⟩ : ∃ i, i = n - (k + 1) := ⟨_, rfl⟩
    have hi2 : n - k = i + 1 := by omega
    rw [pf, ← hi, ih (by omega), hi2]
    have ho : ∀ l, ¬ l = L i → (cl L l (i + 1) = 0 ↔ cl L l i = 0) := by
      intro l hl
      rw [cl, if_neg (fun e => hl e.symm)]
    by_cases c : cl L (L i) i = 0
    · rw [if_pos c]
      refine (pr_upd (a := L i) ?_ ?_ ?_ (hL i (by omega))).symm
      · show (if cl L (L i) (i + 1) = 0 then _ else 1) = 1
        rw [cl, if_pos rfl, if_neg (by omega)]
      · show (if cl L (L i) i = 0 then h (L i) else 1) = _
        rw [if_pos c]; exact h2 i (by omega) c
      · intro v hv
        show (if cl L v i = 0 then h v else 1) = if cl L v (i + 1) = 0 then h v else 1
        by_cases e : cl L v i = 0
        · rw [if_pos e, if_pos ((ho v hv).mpr e)]
        · rw [if_neg e, if_neg fun q => e ((ho v hv).mp q)]
    · rw [if_neg c]
      refine pr_cg fun l hl => ?_
      by_cases e : l = L i
      · rw [e, if_neg c, cl, if_pos rfl, if_neg (by omega)]
      · by_cases q : cl L l i = 0
        · rw [if_pos q, if_pos ((ho l e).mpr q)]
        · rw [if_neg q, if_neg fun x => q ((ho l e).mp x)]
/-- the lines of a letter: two at least, where there are pairs -/
theorem cl_2 {L : Nat → Nat} {l a b : Nat} (hab : a < b) (ha : L a = l) (hb : L b = l) : ∀ n, b < n → 1 < cl L l n := by
  have h1 : ∀ n, a < n → 0 < cl L l n := by
    intro n hn
    rcases Nat.eq_zero_or_pos (cl L l n) with e | e
    · exact absurd ha ((cl_0 n).mp e a hn)
    · exact e
  intro n
  induction n with
  | zero => intro h; omega
  | succ n ih =>
    intro h
    rw [cl]
    by_cases c : L n = l
    · rw [if_pos c]
      by_cases e : b = n
      · have := h1 n (by omega); omega
      · have := ih (by omega); omega
    · rw [if_neg c]
      refine ih ?_
      rcases Nat.lt_or_ge b n with q | q
      · exact q
      · exact absurd (by rw [show n = b from by omega]; exact hb) c
theorem cl_1 {L : Nat → Nat} {l : Nat} : ∀ n, 1 < cl L l n → ∃ a b, a < b ∧ b < n ∧ L a = l ∧ L b = l := by
  intro n
  induction n with
  | zero => intro h; rw [cl] at h; omega
  | succ n ih =>
    intro h
    rw [cl] at h
    by_cases c : L n = l
    · rw [if_pos c] at h
      by_cases e : cl L l n = 0
      · omega
      · obtain ⟨a, ha⟩ : ∃ a, a < n ∧ L a = l := by
          refine Decidable.byContradiction fun q => e ((cl_0 n).mpr fun j hj hl => q ⟨j, hj, hl⟩)
        exact ⟨a, n, ha.1, by omega, ha.2, c⟩
    · rw [if_neg c] at h
      obtain ⟨a, b, q1, q2, q3, q4⟩ := ih h
      exact ⟨a, b, q1, by omega, q3, q4⟩
/-- the reference's ways are the class's, where there are pairs; else none -/
theorem wa_pf {L : Nat → Nat} {W n : Nat} {ok : Nat → Nat → Bool} {sd : Nat → Int32} (hL : ∀ i, i < n → L i < 8) (hsd : ∀ w, w < W → Lb (sd w) 26) (hp : PRS L n) : wa L W n (als ok sd) = pf L n (fun i => sm (bk L W n ok sd i) W) n := by
  unfold wa
  rw [if_neg (by have := hp.1; omega), pf_pr (h := wl L W n (als ok sd)) hL (fun l _ e => by unfold wl; rw [if_pos e]) ?_ n (Nat.le_refl n)]
  · refine pr_cg fun l _ => ?_
    rw [show n - n = 0 from by omega, cl, if_pos rfl]
  · intro a ha e
    have hf := (cl_0 a).mp e
    have hc : 1 < cl L (L a) n := by
      obtain ⟨j, j1, j2, j3⟩ := hp.2 a ha
      rcases Nat.lt_or_ge j a with q | q
      · exact absurd j3 (hf j q)
      · exact cl_2 (by omega) rfl j3 n j1
    unfold wl
    rw [if_neg (by omega)]
    refine Eq.trans (sm_cg fun its _ => ?_) (wd_all (n := n) (ok := ok) (W := W) rfl ha hf hsd)
    unfold wo
    rw [wd_cl, if_neg (by omega)]
theorem wa_no {L : Nat → Nat} {W n : Nat} {al : Nat → Nat → Nat → Bool} (hL : ∀ i, i < n → L i < 8) (hp : ¬ PRS L n) : wa L W n al = 0 := by
  unfold wa
  by_cases c : n = 0
  · rw [if_pos c]
  · rw [if_neg c]
    obtain ⟨i, hi, hj⟩ : ∃ i, i < n ∧ ∀ j, j < n → L j = L i → j = i := by
      refine Decidable.byContradiction fun q => hp ⟨by omega, fun i hi => Decidable.byContradiction fun q2 => q ⟨i, hi, fun j hj e => Decidable.byContradiction fun q3 => q2 ⟨j, hj, q3, e⟩⟩⟩
    refine pr_0 (hL i hi) ?_
    unfold wl
    have h0 : ¬ cl L (L i) n = 0 := fun e => (cl_0 n).mp e i hi rfl
    rw [if_neg h0]
    refine sm_0 fun its _ => ?_
    unfold wo
    rw [wd_cl, if_pos]
    refine Nat.le_of_not_lt fun q => ?_
    obtain ⟨a, b, q1, q2, q3, q4⟩ := cl_1 n q
    have := hj a (by omega) q3
    have := hj b q2 q4
    omega
/-- the class's ways -/
theorem waysOfX_t {t7 : S7} {t10 : S10} {t1 : S1} {tp : S4} {W F P f d : Nat} {rf rm rw sd bf : Nat → Int32} {pw : Nat → Nat} (h : GH t7 t10 t1 tp W F P f d rf rm rw sd pw bf) {set : Int32} {ok : Nat → Nat → Bool} (hok : ∀ i w, i < P → w < W → ok i w = ((tb set i || decide (w = pw i)) && okv rm rw (vL rf f i) w (bf i))) (s : S2) : An (F_X2_waysOf t7 s t1 tp t10 (nI f) (nI d) set) (fun q => (PRS (vL rf f) P ∧ q.1 = jN (pf (vL rf f) P (fun i => sm (bk (vL rf f) W P ok sd i) W) P) ∧ ∀ j v, j < P → v < W → s2_ways q.2 (16 * j + v) = jN (bk (vL rf f) W P ok sd j v)) ∨ (¬ PRS (vL rf f) P ∧ q.1 = jN 0)) := by
  have hG := h
  obtain ⟨hM, hW, hF, hf, hp, h8, hd, hs, hpp⟩ := h
  have h16 := hW.1
  have hz := hW.2.1
  unfold F_X2_waysOf F_X4_size
  rw [hp, Option.bind_some, nm_at]
  refine An_bind (pairs_s hF hf (by omega)) fun b hb => ?_
  rcases hb with ⟨eb, hb⟩ | ⟨eb, hb⟩
  · rw [if_neg (show ¬ b = 0 from by rw [eb]; decide), nm_at, nm_at]
    refine lp_dn (fun q v (x : Int64 × S2) => F_X2_waysOf_b33 t7 t1 tp t10 (nI f) (nI d) set q x.1 v x.2) (fun m x => m ≤ P ∧ x.1 = jN (pf (vL rf f) P (fun i => sm (bk (vL rf f) W P ok sd i) W) (P - m)) ∧ ∀ j v, m ≤ j → j < P → v < W → s2_ways x.2 (16 * j + v) = jN (bk (vL rf f) W P ok sd j v)) _ ?_ ?_ fu P (1, s) (by unfold fu; omega) ⟨Nat.le_refl P, ?_, fun j v h1 h2 => by omega⟩
    · intro q m ⟨a, z⟩ ⟨hm, ha, hj⟩ hK
      simp only [] at ha hj
      show An (F_X2_waysOf_b33 t7 t1 tp t10 (nI f) (nI d) set (q + 1) a (nI m) z) _
      rw [F_X2_waysOf_b33, if_neg (nI_pos (by omega)), tb_sh set (by omega)]
      have k59 : ∀ x5 : Int32, (x5 = 0 ∧ tb set m = false) ∨ (x5 = 1 ∧ tb set m = true) → An (F_X2_waysOf_b59 t7 t1 tp t10 (nI f) (nI d) set (F_X2_waysOf_b33 t7 t1 tp t10 (nI f) (nI d) set q) a (nI m) z (nI f) (nI d) (nI m) x5) (fun q => (PRS (vL rf f) P ∧ q.1 = jN (pf (vL rf f) P (fun i => sm (bk (vL rf f) W P ok sd i) W) P) ∧ ∀ j v, j < P → v < W → s2_ways q.2 (16 * j + v) = jN (bk (vL rf f) W P ok sd j v)) ∨ (¬ PRS (vL rf f) P ∧ q.1 = jN 0)) := by
        intro x5 hx
        unfold F_X2_waysOf_b59
        refine An_bind (weigh_t hG (by omega) hx (fun w hw => hok m w (by omega) hw) (fun j v h1 h2 h3 => hj j v (by omega) h2 h3)) fun z2 ⟨g1, g2, g3⟩ => ?_
        have hj2 : ∀ j v, m ≤ j → j < P → v < W → s2_ways z2 (16 * j + v) = jN (bk (vL rf f) W P ok sd j v) := by
          intro j v h1 h2 h3
          by_cases e : j = m
          · rw [e]; exact g3 v h3
          · rw [g2 j v e (by omega)]; exact hj j v (by omega) h2 h3
        have e1 : P - m = (P - (m + 1)) + 1 := by omega
        have e2 : P - ((P - (m + 1)) + 1) = m := by omega
        refine An_bind (ahead_s hF hf (by omega)) fun aa hh => ?_
        unfold F_X2_waysOf_b92
        rcases hh with ⟨ea, na⟩ | ⟨j, j1, j2, -, ea⟩
        · rw [if_neg (show ¬ (0 : Int32) ≤ aa from by rw [ea]; decide)]
          refine An_bind (sum_t (g := bk (vL rf f) W P ok sd m) (rr := fun _ => true) hz h16 hd hs (by omega) g3 (Or.inl ⟨rfl, fun _ => rfl⟩)) fun r hr => ?_
          rw [nm_at, nm_at]
          refine hK (_, z2) ⟨by omega, ?_, hj2⟩
          show a * r = jN (pf _ _ _ (P - m))
          rw [e1, pf, e2, if_pos ((cl_0 m).mpr na), ha, hr, jN_mul]
          rfl
        · rw [if_pos (show (0 : Int32) ≤ aa from by rw [ea]; exact nI_pos' (by omega)), nm_at]
          refine hK (_, z2) ⟨by omega, ?_, hj2⟩
          show a = jN (pf _ _ _ (P - m))
          rw [e1, pf, e2, if_neg (fun e => (cl_0 m).mp e j j1 j2), ha]
      cases c : tb set m
      · rw [if_neg (show ¬ false = true from by decide), if_pos rfl]
        exact k59 0 (Or.inl ⟨rfl, c⟩)
      · rw [if_pos rfl, if_neg (show ¬ (1 : Int32) = 0 from by decide)]
        exact k59 1 (Or.inr ⟨rfl, c⟩)
    · intro q ⟨a, z⟩ ⟨_, ha, hj⟩
      simp only [] at ha hj
      show An (F_X2_waysOf_b33 t7 t1 tp t10 (nI f) (nI d) set (q + 1) a (nI 0 - 1) z) _
      rw [F_X2_waysOf_b33, if_pos (show nI 0 - 1 < 0 from by decide)]
      exact An_some (Or.inl ⟨hb, ha, fun j v h1 h2 => hj j v (by omega) h1 h2⟩)
    · show (1 : Int64) = jN (pf _ _ _ (P - P))
      rw [show P - P = 0 from by omega, pf]; exact jN_1
  · rw [if_pos eb]
    exact An_some (Or.inr ⟨hb, jN_0⟩)
